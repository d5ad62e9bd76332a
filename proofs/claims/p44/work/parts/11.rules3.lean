/-! arraycopy, Math, by the kit's rows -/
def imax (a b : Int32) : Int32 := if a < b then b else a
def imin (a b : Int32) : Int32 := if b < a then b else a
def lmin (a b : Int64) : Int64 := if b < a then b else a
theorem nfw_copy : nativeFrameWords "java/lang/System" "arraycopy" 5 = 7 := by decide +kernel
def xCopy (own : String) (idx : Nat) : Prop := Cond.methodLink own idx arraycopyName ∈ lw_gd ∧ Cond.native arraycopyName ∈ lw_gd ∧ Cond.static arraycopyName ∈ lw_gd ∧ Cond.initialized "java/lang/System" ∈ lw_gd
section YR
variable {ρ : Type} {g : xG} {D : xD} {h0 : xH} {cl : Bool} {inj : ρ → xR} {o : Option ρ} {pc : Nat} {loc : xL} {st : List Value} {h : xH}
theorem Y.copyI {own : String} {idx a b : Nat} {i j n : Int32} {K : xH → Option ρ} (w : xCopy own idx) (ho : (dy D).cls = own) (hlev : 2 ≤ dd D) (hrm : (st.map Value.category).sum ≤ 8) (d : decode (dc D) pc = .ok (.invokestatic idx, 3)) (kk : ∀ h', Y g D h0 cl inj (K h') (pc + 3) loc st h') : Y g D h0 cl inj ((cpI h a i b j n).bind K) pc loc (.int n :: .int j :: .ref b :: .int i :: .ref a :: st) h := by
  intro r e
  obtain ⟨h', e1, e2⟩ := Option.bind_eq_some_iff.mp e
  unfold cpI at e1
  cases ha : h[a]? with
  | none => rw [ha] at e1; cases e1
  | some c =>
    cases hb : h[b]? with
    | none => rw [ha, hb] at e1; cases e1
    | some c' =>
      rw [ha, hb] at e1
      simp only at e1
      split at e1
      · rename_i q
        obtain ⟨q1, q2, q3, q4, q5, q6, q7, q8⟩ := q
        obtain ⟨t1, l⟩ := c
        obtain ⟨t2, l'⟩ := c'
        simp only at q1 q2 q6 q7 e1
        subst q1; subst q2
        cases e1
        have hx := kk _ r e2
        refine ⟨xle_set hb (by simp) hx.1, ?_⟩
        intro p e' R s m args below meth c H locs ls C hH hS hL h1 h2
        have hea := cw_get (g := g) ha
        have heb := cw_get (g := g) hb
        rw [cE_i] at hea heb
        have ea : cv g (.ref a) = .ref (gB g + a) := by rw [← gad_lt g (Nat.lt_trans (idx_lt ha) hH.2.2)]; rfl
        have eb : cv g (.ref b) = .ref (gB g + b) := by rw [← gad_lt g (Nat.lt_trans (idx_lt hb) hH.2.2)]; rfl
        obtain ⟨hx1, hb1, hml, hown⟩ := C.1
        rw [ho] at hown
        have hwd : ∀ w, w ∈ lw_gd → w.before args s = true := fun w hw => C.2.1 w (gd_in hw)
        have qf := C.2.2.2.2.1
        have ql := C.2.2.2.2.2.1
        simp only [List.map_cons, ea, eb, cv_i]
        refine va_copyi (ty := .int) hx1 hb1 (hml.trans hL.1.1.symm) hown (hwd _ w.1) (hwd _ w.2.1) (hwd _ w.2.2.1) (hwd _ w.2.2.2) C.2.2.2.1.1.1.1 hH.1 (cw_D g h) hS.here a b 0 0 hea heb rfl rfl rfl q3 q4 q5 q6 q7 (fun _ _ => rfl) (by omega) (by
          have := xrm (g := g) hrm
          rw [nfw_copy]
          omega) d (fun H1 locs1 p1 p2 p3 => ?_)
        have en : cE g (100, (List.range l'.length).map (fun q => if j.toNatClampNeg ≤ q ∧ q < j.toNatClampNeg + n.toNatClampNeg then .int (vI (l.getD (i.toNatClampNeg + (q - j.toNatClampNeg)) .null)) else l'.getD q .null)) = .inl (gT g 0, (l'.length, .inl (va_cpy (fun j => vI (l.getD j .null)) (fun j => vI (l'.getD j .null)) i.toNatClampNeg j.toNatClampNeg n.toNatClampNeg))) := by
          rw [cE_i, List.length_map, List.length_range]
          congr 4
          funext k
          unfold va_cpy
          simp only [List.getD_eq_getElem?_getD, List.getElem?_map]
          by_cases hk : k < l'.length
          · rw [List.getElem?_range hk]
            simp only [Option.map_some, Option.getD_some]
            split <;> rfl
          · rw [List.getElem?_eq_none (by rw [List.length_range]; omega), List.getElem?_eq_none (l := l') (by omega)]
            rw [if_neg (by omega)]
            rfl
        rw [← en] at p1
        have hsz := szs_set (c' := (100, (List.range l'.length).map (fun q => if j.toNatClampNeg ≤ q ∧ q < j.toNatClampNeg + n.toNatClampNeg then .int (vI (l.getD (i.toNatClampNeg + (q - j.toNatClampNeg)) .null)) else l'.getD q .null))) hb (by simp)
        have := hx.2 p e' R s m args below meth c H1 locs1 ls C (hH.put p3.1 p1) (hS.two p3) hL (by simpa using h1) (by rw [hsz]; exact h2)
        unfold nC nS at this ⊢
        rw [hsz, List.length_set] at this
        exact this
      · cases e1
def xMat (own : String) (idx : Nat) (y : MethodName) (cc : ByteArray) (n : Nat) (ty : FieldType) : Prop := Cond.methodLink own idx y ∈ lw_gd ∧ Cond.static y ∈ lw_gd ∧ Cond.initialized "java/lang/Math" ∈ lw_gd ∧ Cond.code y cc n (some ty) ∈ lw_gd
theorem Y.room {R : Room} {p : Program} {s : State} {m : MethodId} {args : Array Value} {meth : Method} {c : Code} {x : xR} (C : xCtx g D h0 cl x p R s m args meth c) (q : xle h 0 x) : nC h0 h 0 ≤ R.cells ∧ nS h0 h 0 ≤ R.slots :=
  ⟨Nat.le_trans (nC_le q.1 q.2.2) C.2.2.2.2.2.2.1, Nat.le_trans (nS_le q.2.1 q.2.2) C.2.2.2.2.2.2.2⟩
theorem Y.mmax {own : String} {idx : Nat} {a b : Int32} (w : xMat own idx Lib.Math.max.name Lib.Math.max.code 2 .int) (ho : (dy D).cls = own) (hlev : 2 ≤ dd D) (hrm : (st.map Value.category).sum ≤ 8) (d : decode (dc D) pc = .ok (.invokestatic idx, 3)) (kk : Y g D h0 cl inj o (pc + 3) loc (.int (imax a b) :: st) h) : Y g D h0 cl inj o pc loc (.int b :: .int a :: st) h := by
  intro r e
  refine ⟨(kk r e).1, ?_⟩
  intro p e' R s m args below meth c H locs ls C hH hS hL h1 h2
  obtain ⟨hx1, hb1, hml, hown⟩ := C.1
  rw [ho] at hown
  have hwd : ∀ w, w ∈ lw_gd → w.before args s = true := fun w hw => C.2.1 w (gd_in hw)
  have qf := C.2.2.2.2.1
  have ql := C.2.2.2.2.2.1
  have qr := Y.room C (kk r e).1
  have := xrm (g := g) hrm
  exact va_mmax hx1 hb1 (hml.trans hL.1.1.symm) hown (hwd _ w.1) (hwd _ w.2.1) (hwd _ w.2.2.1) (hwd _ w.2.2.2) (by omega) (by omega) qr.1 qr.2 d ((kk r e).2 p e' R s m args below meth c H locs ls C hH hS hL h1 h2)
theorem Y.mmin {own : String} {idx : Nat} {a b : Int32} (w : xMat own idx Lib.Math.min.name Lib.Math.min.code 2 .int) (ho : (dy D).cls = own) (hlev : 2 ≤ dd D) (hrm : (st.map Value.category).sum ≤ 8) (d : decode (dc D) pc = .ok (.invokestatic idx, 3)) (kk : Y g D h0 cl inj o (pc + 3) loc (.int (imin a b) :: st) h) : Y g D h0 cl inj o pc loc (.int b :: .int a :: st) h := by
  intro r e
  refine ⟨(kk r e).1, ?_⟩
  intro p e' R s m args below meth c H locs ls C hH hS hL h1 h2
  obtain ⟨hx1, hb1, hml, hown⟩ := C.1
  rw [ho] at hown
  have hwd : ∀ w, w ∈ lw_gd → w.before args s = true := fun w hw => C.2.1 w (gd_in hw)
  have qf := C.2.2.2.2.1
  have ql := C.2.2.2.2.2.1
  have qr := Y.room C (kk r e).1
  have := xrm (g := g) hrm
  exact va_mmin hx1 hb1 (hml.trans hL.1.1.symm) hown (hwd _ w.1) (hwd _ w.2.1) (hwd _ w.2.2.1) (hwd _ w.2.2.2) (by omega) (by omega) qr.1 qr.2 d ((kk r e).2 p e' R s m args below meth c H locs ls C hH hS hL h1 h2)
theorem Y.mminJ {own : String} {idx : Nat} {a b : Int64} (w : xMat own idx Lib.MathLoose.min_long.x Lib.MathLoose.min_long.code 4 .long) (ho : (dy D).cls = own) (hlev : 2 ≤ dd D) (hrm : (st.map Value.category).sum ≤ 8) (d : decode (dc D) pc = .ok (.invokestatic idx, 3)) (kk : Y g D h0 cl inj o (pc + 3) loc (.long (lmin a b) :: st) h) : Y g D h0 cl inj o pc loc (.long b :: .long a :: st) h := by
  intro r e
  refine ⟨(kk r e).1, ?_⟩
  intro p e' R s m args below meth c H locs ls C hH hS hL h1 h2
  obtain ⟨hx1, hb1, hml, hown⟩ := C.1
  rw [ho] at hown
  have hwd : ∀ w, w ∈ lw_gd → w.before args s = true := fun w hw => C.2.1 w (gd_in hw)
  have qf := C.2.2.2.2.1
  have ql := C.2.2.2.2.2.1
  have qr := Y.room C (kk r e).1
  have := xrm (g := g) hrm
  exact va_mmin_long hx1 hb1 (hml.trans hL.1.1.symm) hown (hwd _ w.1) (hwd _ w.2.1) (hwd _ w.2.2.1) (hwd _ w.2.2.2) (by omega) (by omega) qr.1 qr.2 d ((kk r e).2 p e' R s m args below meth c H locs ls C hH hS hL h1 h2)
end YR
theorem mw_X9_249 : xMat RX9 249 Lib.MathLoose.min_long.x Lib.MathLoose.min_long.code 4 .long := ⟨gdm 1234 (by decide +kernel) rfl, gdm 1221 (by decide +kernel) rfl, gdm 126 (by decide +kernel) rfl, gdm 1222 (by decide +kernel) rfl⟩
theorem cw_X0_58 : xCopy RX0 58 := ⟨gdm 519 (by decide +kernel) rfl, gdm 521 (by decide +kernel) rfl, gdm 520 (by decide +kernel) rfl, gdm 127 (by decide +kernel) rfl⟩
theorem mw_X1_73 : xMat RX1 73 Lib.Math.max.name Lib.Math.max.code 2 .int := ⟨gdm 1331 (by decide +kernel) rfl, gdm 1332 (by decide +kernel) rfl, gdm 126 (by decide +kernel) rfl, gdm 1333 (by decide +kernel) rfl⟩
theorem mw_X6_165 : xMat RX6 165 Lib.Math.min.name Lib.Math.min.code 2 .int := ⟨gdm 803 (by decide +kernel) rfl, gdm 804 (by decide +kernel) rfl, gdm 126 (by decide +kernel) rfl, gdm 805 (by decide +kernel) rfl⟩
theorem mw_X7_50 : xMat RX7 50 Lib.Math.min.name Lib.Math.min.code 2 .int := ⟨gdm 903 (by decide +kernel) rfl, gdm 804 (by decide +kernel) rfl, gdm 126 (by decide +kernel) rfl, gdm 805 (by decide +kernel) rfl⟩
theorem mw_X8_44 : xMat RX8 44 Lib.Math.min.name Lib.Math.min.code 2 .int := ⟨gdm 1205 (by decide +kernel) rfl, gdm 804 (by decide +kernel) rfl, gdm 126 (by decide +kernel) rfl, gdm 805 (by decide +kernel) rfl⟩
theorem mw_X8_90 : xMat RX8 90 Lib.MathLoose.min_long.x Lib.MathLoose.min_long.code 4 .long := ⟨gdm 1220 (by decide +kernel) rfl, gdm 1221 (by decide +kernel) rfl, gdm 126 (by decide +kernel) rfl, gdm 1222 (by decide +kernel) rfl⟩
