/-! constructors: Object.<init>, final fields, rows of objects, calls of constructors -/
def sR (h : xH) (a : Nat) (i : Int32) (v : Nat) : Option xH := match h[a]?, h[v]? with
  | some c, some c' => if c.1 = 105 ∧ c'.1 = 0 ∧ ain i c.2.length then some (h.set a (105, c.2.set i.toNatClampNeg (.ref v))) else none
  | _, _ => none
def ic {β : Type} (h : xH) (a : Nat) (F : Option β) : Option β := if a < h.length then F else none
def xObj (own : String) (idx : Nat) : Prop := Cond.methodLink own idx Lib.objectInit ∈ lw_gd ∧ Cond.instanceMethod Lib.objectInit ∈ lw_gd ∧ Cond.code Lib.objectInit ⟨#[0xb1]⟩ 1 none ∈ lw_gd
section YO
variable {ρ : Type} {g : xG} {D D' : xD} {h0 : xH} {cl : Bool} {inj : ρ → xR} {o : Option ρ} {pc : Nat} {loc : xL} {st st0 As : List Value} {h : xH}
theorem X.objInit {x : xR} {ex : Nat} {own : String} {idx a : Nat} (w : xObj own idx) (ho : (dy D).cls = own) (hlev : 1 ≤ dd D) (hrm : (st.map Value.category).sum ≤ 8) (d : decode (dc D) pc = .ok (.invokespecial idx, 3)) (k : X g D h0 x (pc + 3) loc st h cl ex) : X g D h0 x pc loc (.ref a :: st) h cl ex := by
  intro p e R s m args below meth c H locs ls C hH hS hL h1 h2
  obtain ⟨hx, hb, hml, hown⟩ := C.1
  rw [ho] at hown
  have hwd : ∀ w, w ∈ lw_gd → w.before args s = true := fun w hw => C.2.1 w (gd_in hw)
  have qf := C.2.2.2.2.1
  have ql := C.2.2.2.2.2.1
  have := xrm (g := g) hrm
  exact W.objInit hx hb hown (hwd _ w.1) (hwd _ w.2.1) (hwd _ w.2.2) rfl (hL.1.1.trans hml.symm) rfl d (by omega) (by show 2 * 0 + _ + 12 ≤ _; omega) (k p e R s m args below meth c H locs ls C hH hS hL h1 h2)
theorem Y.putR {own : String} {idx ci k a v : Nat} {tk : FieldType} {K : xH → Option ρ} (f : xFldF own idx ci k tk) (ho : (dy D).cls = own) (hfi : (dy D).name = "<init>") (hn : ∀ q, narrow tk (.ref q) = .ref q) (hf : ∀ q, fits tk (.ref q) = true) (d : decode (dc D) pc = .ok (.putfield idx, 3)) (kk : ∀ h', Y g D h0 cl inj (K h') (pc + 3) loc st h') : Y g D h0 cl inj ((pR h ci a k v).bind K) pc loc (.ref v :: .ref a :: st) h := by
  intro r e
  obtain ⟨h', e1, e2⟩ := Option.bind_eq_some_iff.mp e
  obtain ⟨fs, q1, q2, rfl⟩ := pf_spec e1
  exact ⟨xle_set q1 (by simp) (kk _ r e2).1, X.putfF f ho hfi q1 q2 (hn _) (hf _) d (kk _ r e2).2⟩
theorem Y.astR {a v : Nat} {i : Int32} {K : xH → Option ρ} (d : decode (dc D) pc = .ok (.aastore, 1)) (kk : ∀ h', Y g D h0 cl inj (K h') (pc + 1) loc st h') : Y g D h0 cl inj ((sR h a i v).bind K) pc loc (.ref v :: .int i :: .ref a :: st) h := by
  intro r e
  obtain ⟨h', e1, e2⟩ := Option.bind_eq_some_iff.mp e
  unfold sR at e1
  cases hc : h[a]? with
  | none => rw [hc] at e1; cases e1
  | some c =>
    cases hv : h[v]? with
    | none => rw [hc, hv] at e1; cases e1
    | some c' =>
      rw [hc, hv] at e1
      simp only at e1
      split at e1
      · rename_i q
        obtain ⟨q1, q2, q3⟩ := q
        obtain ⟨c1, l⟩ := c
        obtain ⟨c3, fs⟩ := c'
        simp only at q1 q2 q3 e1
        subst q1; subst q2
        cases e1
        have hx := kk _ r e2
        refine ⟨xle_set hc (by simp) hx.1, ?_⟩
        intro p e' R s m args below meth cd H locs ls C hH hS hL h1 h2
        have hea := cw_get (g := g) hc
        have hev := cw_get (g := g) hv
        rw [cE_q g 105 l (by decide)] at hea
        rw [cE_o g fs (by decide : 0 < 100)] at hev
        have ea : cv g (.ref a) = .ref (gB g + a) := by rw [← gad_lt g (Nat.lt_trans (idx_lt hc) hH.2.2)]; rfl
        have ev : cv g (.ref v) = .ref (gB g + v) := by rw [← gad_lt g (Nat.lt_trans (idx_lt hv) hH.2.2)]; rfl
        simp only [List.map_cons, ea, ev, cv_i]
        refine va_astq (r := (RX0, TX0, 10)) C.1.1 C.1.2.1 C.2.2.2.1.1.1.1 hH.1 (cw_D g h) hS.here a 5 v 0 hea rfl hev rfl (ain_in q3) d (X.astK (e := e') (below := below) (locs := locs) hc ?_ hx.2 C hH hS hL h1 h2)
        rw [cE_q g 105 _ (by decide), List.length_set]
        congr 7
        funext j
        rw [getD_set q3.2]
        unfold va_up
        split
        · show some (gad g v) = _
          rw [gad_lt g (Nat.lt_trans (idx_lt hv) hH.2.2)]
        · rfl
      · cases e1
theorem Y.callIv {own : String} {idx n a : Nat} (hl : xLnk own idx (dy D') ∨ xNst own idx (dy D')) (ho : (dy D).cls = own) (hc : xCal D' n) (hv : xIni D') (hd : dd D' + 1 ≤ dd D) (hn : As.length = n) (hst : st0 = As.reverse ++ .ref a :: st) (hrm : (st.map Value.category).sum ≤ 8) (d : decode (dc D) pc = .ok (.invokespecial idx, 3)) {F : Option xH} {K : xH → Option ρ} (hM : ∀ r, F = some r → XM g D' (.ref a :: As) h cl (iV r))
    (kk : ∀ r, Y g D h0 cl inj (K r) (pc + 3) loc st r) : Y g D h0 cl inj ((ic h a F).bind K) pc loc st0 h := by
  intro r e
  obtain ⟨r', e1, e2⟩ := Option.bind_eq_some_iff.mp e
  unfold ic at e1
  split at e1
  · rename_i ha
    have hM' := hM r' e1
    have q := kk r' r e2
    refine ⟨xle_call hM' q.1, ?_⟩
    exact X.runs (xRuns.I ha hl ho hc hv hd hn hst hrm hM' (fun z => ⟨z, rfl⟩) q.1 d) ⟨hM'.1, hM'.2.1⟩ rfl q.2
  · cases e1
end YO
