/-! rules that the law's own methods want: clone, casts, rows of rows and of its books, fields that change, the script, wrappers -/
def nwK (h : xH) (a : Nat) : Option (Nat × xH) := match h[a]? with
  | some c => if c.1 = 100 then nwC h (100, c.2) else none
  | none => none
def nwB (h : xH) (n : Int32) : Option (Nat × xH) := if ¬ n < 0 ∧ n.toNatClampNeg ≤ 1000000 then nwC h (103, List.replicate n.toNatClampNeg .null) else none
def sB (h : xH) (a : Nat) (i : Int32) (v : Nat) : Option xH := match h[a]?, h[v]? with
  | some c, some c' => if c.1 = 103 ∧ c'.1 = 10 ∧ ain i c.2.length then some (h.set a (103, c.2.set i.toNatClampNeg (.ref v))) else none
  | _, _ => none
def sA (h : xH) (a : Nat) (i : Int32) (v : Nat) : Option xH := match h[a]?, h[v]? with
  | some c, some c' => if c.1 = 102 ∧ c'.1 = 100 ∧ ain i c.2.length then some (h.set a (102, c.2.set i.toNatClampNeg (.ref v))) else none
  | _, _ => none
def aL (h : xH) (a : Nat) : Option Int32 := match h[a]? with
  | some c => if c.1 = 100 then some (Int32.ofNat c.2.length) else none
  | none => none
def sc (S : List Int32) (i : Int32) : Option Int32 := if ain i S.length then some (S.getD i.toNatClampNeg 0) else none
def xClone (own : String) (idx : Nat) : Prop := Cond.methodLink own idx ⟨"[I", "clone", "()Ljava/lang/Object;"⟩ ∈ lw_gd ∧ Cond.sameMethod "[I" "java/lang/Object" "clone" "()Ljava/lang/Object;" ∈ lw_gd ∧ Cond.native ⟨"java/lang/Object", "clone", "()Ljava/lang/Object;"⟩ ∈ lw_gd ∧ Cond.instanceMethod ⟨"java/lang/Object", "clone", "()Ljava/lang/Object;"⟩ ∈ lw_gd ∧
  Cond.selects "[I" ⟨"[I", "clone", "()Ljava/lang/Object;"⟩ ⟨"java/lang/Object", "clone", "()Ljava/lang/Object;"⟩ ∈ lw_gd ∧ Cond.castable "[I" "java/lang/Cloneable" ∈ lw_nw
section X5
variable {g : xG} {D : xD} {h0 : xH} {x : xR} {pc : Nat} {loc : xL} {st : List Value} {h : xH} {cl : Bool} {ex : Nat}
theorem X.land {a b : Int64} (d : decode (dc D) pc = .ok (.land, 1)) (k : X g D h0 x (pc + 1) loc (.long (a &&& b) :: st) h cl ex) : X g D h0 x pc loc (.long b :: .long a :: st) h cl ex := X.lift (fun hx hb w => lv_land hx hb d w) k
theorem X.lushr {a : Int64} {b : Int32} (d : decode (dc D) pc = .ok (.lushr, 1)) (k : X g D h0 x (pc + 1) loc (.long ((a.toUInt64 >>> (b.toInt64.toUInt64 &&& (63 : Int64).toUInt64)).toInt64) :: st) h cl ex) : X g D h0 x pc loc (.int b :: .long a :: st) h cl ex := X.lift (fun hx hb w => lv_lushr hx hb d rfl w) k
theorem X.aloadO2 {i : Nat} {o : Option Nat} (hl : loc[i]? = some (some (rv o))) (d : decode (dc D) pc = .ok (.aload i, 2)) (k : X g D h0 x (pc + 2) loc (rv o :: st) h cl ex) : X g D h0 x pc loc st h cl ex := by
  cases o with
  | none => exact X.liftL (fun hx hb L w => lv_aloadN hx hb d (L.2.2 _ _ hl) (w _ L)) k
  | some a => exact X.aload hl d k
theorem X.astoreO2 {i : Nat} {o : Option Nat} {loc' : xL} (hi : i < loc.length) (he : st1 loc i (rv o) = loc') (d : decode (dc D) pc = .ok (.astore i, 2)) (k : X g D h0 x (pc + 2) loc' st h cl ex) : X g D h0 x pc loc (rv o :: st) h cl ex := by
  cases o with
  | none => exact X.liftL (fun hx hb L w => lv_astoreN hx hb d L.has (L.lt hi) rfl (fun ls' h' => w _ (he ▸ L.sto1 h'))) k
  | some a => exact X.astore hi he d k
theorem X.scrLen {x : xR} (d : decode (dc D) pc = .ok (.arraylength, 1)) (k : X g D h0 x (pc + 1) loc (.int (Int32.ofNat (gX g).length) :: st) h cl ex) : X g D h0 x pc loc (.ref 1000000 :: st) h cl ex := by
  intro p e R s m args below meth c H locs ls C hH hS hL h1 h2
  have ea : cv g (.ref 1000000) = .ref (gS g 0) := by
    show cv g (.ref (1000000 + 0)) = _
    rw [gad_c]
  rw [List.map_cons, ea]
  exact va_tlen C.1.1 C.1.2.1 C.2.2.2.1.1.2.1.2.1 hS rfl d (k p e R s m args below meth c H locs ls C hH hS hL h1 h2)
end X5
section Y5
variable {ρ : Type} {g : xG} {D D' : xD} {h0 : xH} {cl : Bool} {inj : ρ → xR} {o : Option ρ} {pc : Nat} {loc : xL} {st st0 As : List Value} {h : xH}
theorem Y.sald {i : Int32} {K : Int32 → Option ρ} (d : decode (dc D) pc = .ok (.iaload, 1)) (kk : ∀ v, Y g D h0 cl inj (K v) (pc + 1) loc (.int v :: st) h) : Y g D h0 cl inj ((sc (gX g) i).bind K) pc loc (.int i :: .ref 1000000 :: st) h := by
  intro r e
  obtain ⟨v, e1, e2⟩ := Option.bind_eq_some_iff.mp e
  unfold sc at e1
  split at e1
  · rename_i q
    cases e1
    exact ⟨(kk _ r e2).1, X.sald (ain_in q) d (kk _ r e2).2⟩
  · cases e1
theorem Y.alen {a : Nat} {K : Int32 → Option ρ} (d : decode (dc D) pc = .ok (.arraylength, 1)) (kk : ∀ v, Y g D h0 cl inj (K v) (pc + 1) loc (.int v :: st) h) : Y g D h0 cl inj ((aL h a).bind K) pc loc (.ref a :: st) h := by
  intro r e
  obtain ⟨v, e1, e2⟩ := Option.bind_eq_some_iff.mp e
  unfold aL at e1
  cases hc : h[a]? with
  | none => rw [hc] at e1; cases e1
  | some c =>
    rw [hc] at e1
    simp only at e1
    split at e1
    · rename_i q
      obtain ⟨c1, l⟩ := c
      simp only at q e1
      subst q
      cases e1
      refine ⟨(kk _ r e2).1, ?_⟩
      intro p e R s m args below meth cd H locs ls C hH hS hL h1 h2
      have he := cw_get (g := g) hc
      rw [cE_i] at he
      have ea : cv g (.ref a) = .ref (gB g + a) := by rw [← gad_lt g (Nat.lt_trans (idx_lt hc) hH.2.2)]; rfl
      have kk2 := (kk _ r e2).2 p e R s m args below meth cd H locs ls C hH hS hL h1 h2
      rw [List.map_cons, ea]
      exact va_alen C.1.1 C.1.2.1 C.2.2.2.1.1.1.1 hH.1 a 0 he rfl rfl d kk2
    · cases e1
theorem Y.clone {own : String} {idx a : Nat} {K : Nat × xH → Option ρ} (w : xClone own idx) (ho : (dy D).cls = own) (hlev : 1 ≤ dd D) (hrm : (st.map Value.category).sum ≤ 8) (d : decode (dc D) pc = .ok (.invokevirtual idx, 3)) (kk : ∀ r, Y g D h0 false inj (K r) (pc + 3) loc (.ref r.1 :: st) r.2) : Y g D h0 false inj ((nwK h a).bind K) pc loc (.ref a :: st) h := by
  intro r e
  obtain ⟨r', e1, e2⟩ := Option.bind_eq_some_iff.mp e
  unfold nwK at e1
  cases hc : h[a]? with
  | none => rw [hc] at e1; cases e1
  | some c =>
    rw [hc] at e1
    simp only at e1
    split at e1
    · rename_i q9
      obtain ⟨c1, l⟩ := c
      simp only at q9 e1
      subst q9
      unfold nwC at e1
      split at e1
      · rename_i hlt
        cases e1
        have q := kk _ r e2
        refine ⟨xle_push q.1, ?_⟩
        intro p e' R s m args below meth cd H locs ls C hH hS hL h1 h2
        obtain ⟨hx, hb, hml, hown⟩ := C.1
        rw [ho] at hown
        have hwd : ∀ w, w ∈ lw_gd → w.before args s = true := fun w hw => C.2.1 w (gd_in hw)
        have hr := nw_room (c := (100, l)) (n := l.length) rfl C h1 h2 q.1
        have hA : ∀ q, s.heap.size ≤ q → gA g q := fun q hq => Nat.le_trans (Nat.le_trans (Nat.le_add_right _ _) C.2.2.2.1.2.1) hq
        have hK := C.2.2.2.1.1
        have qf := C.2.2.2.2.1
        have ql := C.2.2.2.2.2.1
        have hrm2 := xrm (g := g) hrm
        have hea := cw_get (g := g) hc
        rw [cE_i] at hea
        have ea : cv g (.ref a) = .ref (gB g + a) := by rw [← gad_lt g (Nat.lt_trans (idx_lt hc) hH.2.2)]; rfl
        rw [List.map_cons, ea]
        refine va_clone (ty := .int) hx hb (hml.trans hL.1.1.symm) hown (hwd _ w.1) (hwd _ w.2.1) (hwd _ w.2.2.1) (hwd _ w.2.2.2.1) (hwd _ w.2.2.2.2.1) (hK.1.2.1 _ w.2.2.2.2.2) hK.1.1 hH.1 (cw_D g h) hS hA a 0 hea rfl (va_nm_int (hK.1.1.2 0 (gT g 0, .int) rfl).2) (va_fit (fun i _ => rfl)) (by omega) (by omega) hr.1 hr.2 d (fun q0 H1 hK1 hP hD hS1 => ?_)
        have hce : cE g (100, l) = .inl (gT g 0, (l.length, .inl (fun j => vI (l.getD j .null)))) := cE_i g l
        rw [← hce] at hP hD
        exact nw_go (c := (100, l)) rfl q.2 C hlt hL h1 h2 hP hD hS1
      · cases e1
    · cases e1
theorem Y.castI {own : String} {idx a : Nat} {K : Option ρ} (w : Cond.classLink own idx "[I" ∈ lw_gd) (ho : (dy D).cls = own) (d : decode (dc D) pc = .ok (.checkcast idx, 3)) (kk : Y g D h0 cl inj K (pc + 3) loc (.ref a :: st) h) : Y g D h0 cl inj (vc h 100 a K) pc loc (.ref a :: st) h := by
  intro r e
  obtain ⟨l, hc, e1⟩ := vc_spec e
  refine ⟨(kk r e1).1, ?_⟩
  intro p e' R s m args below meth cd H locs ls C hH hS hL h1 h2
  obtain ⟨hx, hb, hml, hown⟩ := C.1
  rw [ho] at hown
  have hea := cw_get (g := g) hc
  rw [cE_i] at hea
  have ea : cv g (.ref a) = .ref (gB g + a) := by rw [← gad_lt g (Nat.lt_trans (idx_lt hc) hH.2.2)]; rfl
  have kk2 := (kk r e1).2 p e' R s m args below meth cd H locs ls C hH hS hL h1 h2
  rw [List.map_cons, ea] at kk2 ⊢
  exact va_castA hx hb hown (C.2.1 _ (gd_in w)) hH.1 a hea (va_nm_int (C.2.2.2.1.1.1.1.2 0 (gT g 0, .int) rfl).2) d kk2
theorem Y.newB {own : String} {idx : Nat} {n : Int32} {K : Nat × xH → Option ρ} (w : Cond.classLink own idx "PairKeeperLaw$Book" ∈ lw_gd) (ho : (dy D).cls = own) (d : decode (dc D) pc = .ok (.anewarray idx, 3)) (kk : ∀ r, Y g D h0 false inj (K r) (pc + 3) loc (.ref r.1 :: st) r.2) : Y g D h0 false inj ((nwB h n).bind K) pc loc (.int n :: st) h := by
  intro r e
  obtain ⟨r', e1, e2⟩ := Option.bind_eq_some_iff.mp e
  unfold nwB at e1
  split at e1
  · rename_i hn
    unfold nwC at e1
    split at e1
    · rename_i hlt
      cases e1
      have q := kk _ r e2
      refine ⟨xle_push q.1, ?_⟩
      intro p e' R s m args below meth c H locs ls C hH hS hL h1 h2
      obtain ⟨hx, hb, hml, hown⟩ := C.1
      rw [ho] at hown
      have hN : ((103, List.replicate n.toNatClampNeg .null) : xC).2.length = n.toNatClampNeg := List.length_replicate
      have hr := nw_room hN C h1 h2 q.1
      have hA : ∀ q, s.heap.size ≤ q → gA g q := fun q hq => Nat.le_trans (Nat.le_trans (Nat.le_add_right _ _) C.2.2.2.1.2.1) hq
      have hK := C.2.2.2.1.1.1.1
      have hz : ∀ j, vQ g ((List.replicate n.toNatClampNeg Value.null).getD j .null) = none := by
        intro j
        rw [List.getD_eq_getElem?_getD, List.getElem?_replicate]
        split <;> rfl
      have hz2 : (fun j => vQ g ((List.replicate n.toNatClampNeg Value.null).getD j .null)) = fun _ => none := funext hz
      refine va_newq hx hb hown (C.2.1 _ (gd_in w)) (va_AO.of (C.2.2.2.1.1.1.2.2.2.1 _ (by simp [kAO]))) hK hH.1 (cw_D g h) hS hA hn.1 rfl (by omega) hr.1 hr.2 d (fun q0 cA H1 hK1 hP hD hS1 => ?_)
      have hcA : cA = gT g 3 := by
        obtain ⟨_, _, _, _, _, a1⟩ := (hK1.2 6 (cA, .object "PairKeeperLaw$Book") rfl).2
        obtain ⟨_, _, _, _, _, a2⟩ := (hK.2 3 (gT g 3, .object "PairKeeperLaw$Book") rfl).2
        exact Option.some.inj (Eq.trans (Eq.symm a1) a2)
      have hce : cE g (103, List.replicate n.toNatClampNeg .null) = .inl (cA, n.toNatClampNeg, .inr (.inr (.inr (.inr (fun _ => none))))) := by
        rw [cE_q g 103 _ (by decide), List.length_replicate, hz2, hcA]
      rw [← hce] at hP hD
      exact nw_go hN q.2 C hlt hL h1 h2 hP hD hS1
    · cases e1
  · cases e1
theorem Y.astB {a v : Nat} {i : Int32} {K : xH → Option ρ} (d : decode (dc D) pc = .ok (.aastore, 1)) (kk : ∀ h', Y g D h0 cl inj (K h') (pc + 1) loc st h') : Y g D h0 cl inj ((sB h a i v).bind K) pc loc (.ref v :: .int i :: .ref a :: st) h := by
  intro r e
  obtain ⟨h', e1, e2⟩ := Option.bind_eq_some_iff.mp e
  unfold sB at e1
  cases hc : h[a]? with
  | none => rw [hc] at e1; cases e1
  | some c =>
    cases hv : h[v]? with
    | none => rw [hc, hv] at e1; cases e1
    | some c' =>
      rw [hc, hv] at e1
      simp only at e1
      split at e1
      · rename_i q
        obtain ⟨q1, q2, q3⟩ := q
        obtain ⟨c1, l⟩ := c
        obtain ⟨c3, fs⟩ := c'
        simp only at q1 q2 q3 e1
        subst q1; subst q2
        cases e1
        have hx := kk _ r e2
        refine ⟨xle_set hc (by simp) hx.1, ?_⟩
        intro p e' R s m args below meth cd H locs ls C hH hS hL h1 h2
        have hea := cw_get (g := g) hc
        have hev := cw_get (g := g) hv
        rw [cE_q g 103 l (by decide)] at hea
        rw [cE_o g fs (by decide : 10 < 100)] at hev
        have ea : cv g (.ref a) = .ref (gB g + a) := by rw [← gad_lt g (Nat.lt_trans (idx_lt hc) hH.2.2)]; rfl
        have ev : cv g (.ref v) = .ref (gB g + v) := by rw [← gad_lt g (Nat.lt_trans (idx_lt hv) hH.2.2)]; rfl
        simp only [List.map_cons, ea, ev, cv_i]
        refine va_astq (r := (RX10, TX10, 8)) C.1.1 C.1.2.1 C.2.2.2.1.1.1.1 hH.1 (cw_D g h) hS.here a 3 v 10 hea rfl hev rfl (ain_in q3) d (X.astK (e := e') (below := below) (locs := locs) hc ?_ hx.2 C hH hS hL h1 h2)
        rw [cE_q g 103 _ (by decide), List.length_set]
        congr 7
        funext j
        rw [getD_set q3.2]
        unfold va_up
        split
        · show some (gad g v) = _
          rw [gad_lt g (Nat.lt_trans (idx_lt hv) hH.2.2)]
        · rfl
      · cases e1
theorem Y.astA {a v : Nat} {i : Int32} {K : xH → Option ρ} (d : decode (dc D) pc = .ok (.aastore, 1)) (kk : ∀ h', Y g D h0 cl inj (K h') (pc + 1) loc st h') : Y g D h0 cl inj ((sA h a i v).bind K) pc loc (.ref v :: .int i :: .ref a :: st) h := by
  intro r e
  obtain ⟨h', e1, e2⟩ := Option.bind_eq_some_iff.mp e
  unfold sA at e1
  cases hc : h[a]? with
  | none => rw [hc] at e1; cases e1
  | some c =>
    cases hv : h[v]? with
    | none => rw [hc, hv] at e1; cases e1
    | some c' =>
      rw [hc, hv] at e1
      simp only at e1
      split at e1
      · rename_i q
        obtain ⟨q1, q2, q3⟩ := q
        obtain ⟨c1, l⟩ := c
        obtain ⟨c3, fs⟩ := c'
        simp only at q1 q2 q3 e1
        subst q1; subst q2
        cases e1
        have hx := kk _ r e2
        refine ⟨xle_set hc (by simp) hx.1, ?_⟩
        intro p e' R s m args below meth cd H locs ls C hH hS hL h1 h2
        have hea := cw_get (g := g) hc
        have hev := cw_get (g := g) hv
        rw [cE_q g 102 l (by decide)] at hea
        rw [cE_i] at hev
        have ea : cv g (.ref a) = .ref (gB g + a) := by rw [← gad_lt g (Nat.lt_trans (idx_lt hc) hH.2.2)]; rfl
        have ev : cv g (.ref v) = .ref (gB g + v) := by rw [← gad_lt g (Nat.lt_trans (idx_lt hv) hH.2.2)]; rfl
        simp only [List.map_cons, ea, ev, cv_i]
        have hK := C.2.2.2.1.1.1.1
        have hAO : (Cond.arrayOver (.array .int)).before args s = true := va_AOA.use (C.2.2.2.1.1.1.2.2.2.1 _ (by simp [kAO]))
        obtain ⟨comp, cA, kA, g1, g2, g3, g4⟩ := Cond.arrayOver_specA hAO
        have e2A : cA = gT g 2 := Option.some.inj (g4.symm.trans (hK.2 2 (gT g 2, .array .int) rfl).2)
        have e0A : comp = gT g 0 := Option.some.inj (g1.symm.trans (va_nm_int (hK.2 0 (gT g 0, .int) rfl).2))
        subst e2A; subst e0A
        obtain ⟨-, kE, hkE, compE, hkindE⟩ := (hK.2 0 (gT g 0, .int) rfl).1 0 (fun _ => .null)
        have hlt : i.toNatClampNeg < l.length := q3.2
        have hP := hH.1
        refine W.aast C.1.1 C.1.2.1 (hP a _ hea) (fun q h => by cases h) (fun h => by cases h) g2 g3 rfl hkE ⟨q3.1, by show _ < (arrV _ _ _).slots.size; rw [arrV_size]; exact hlt⟩ (hP v _ hev) (fun q h => by cases h) hkE (va_asg _ _) rfl rfl d fun H1 e9 z oq => ?_
        have hst := X.astK (e := e') (below := below) (locs := locs) (en := .inl (gT g 2, l.length, .inr (.inr (.inr (.inr (va_up (fun j => vQ g (l.getD j .null)) i.toNatClampNeg (some (gB g + v)))))))) hc ?_ hx.2 C hH hS hL h1 h2
        · refine hst H1 _ (hP.set (cw_D g h) hea ?_ oq) ((cw_D g h).set hea) (hS.here.put z oq ((cw_D g h).2 a _ hea))
          show H1[gB g + a]? = some (vp_cell _ _)
          rw [e9]
          rw [vp_cell_q, vp_cell_q, arrV_store]
          congr 2
          funext q
          by_cases hq : q = i.toNatClampNeg
          · subst hq
            simp [updV, va_up, va_rf]
          · simp [updV, va_up, hq]
        · rw [cE_q g 102 _ (by decide), List.length_set]
          congr 7
          funext j
          rw [getD_set q3.2]
          unfold va_up
          split
          · show some (gad g v) = _
            rw [gad_lt g (Nat.lt_trans (idx_lt hv) hH.2.2)]
          · rfl
      · cases e1
theorem Y.putRn {own : String} {idx ci k a v : Nat} {tk : FieldType} {K : xH → Option ρ} (f : xFld own idx ci k tk false) (ho : (dy D).cls = own) (hn : ∀ q, narrow tk (.ref q) = .ref q) (hf : ∀ q, fits tk (.ref q) = true) (d : decode (dc D) pc = .ok (.putfield idx, 3)) (kk : ∀ h', Y g D h0 cl inj (K h') (pc + 3) loc st h') : Y g D h0 cl inj ((pR h ci a k v).bind K) pc loc (.ref v :: .ref a :: st) h := by
  intro r e
  obtain ⟨h', e1, e2⟩ := Option.bind_eq_some_iff.mp e
  obtain ⟨fs, q1, q2, rfl⟩ := pf_spec e1
  exact ⟨xle_set q1 (by simp) (kk _ r e2).1, X.putf f ho q1 q2 (hn _) (hf _) d (kk _ r e2).2⟩
end Y5
