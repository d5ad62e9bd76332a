/-! THE LAW: catching, its wrappers, its judgement with exceptions counted -/
def NSE : String := "java/util/NoSuchElementException"
def IAE : String := "java/lang/IllegalArgumentException"
theorem LR.none {g : xG} {ls : Array Slot} {nL : Nat} {l : List (Nat × Value)} (h : lv_has ls nL l) : LR g ls nL (List.replicate nL none) := LR.mk' h (by simp) (fun i v hi => by
  rw [List.getElem?_replicate] at hi
  split at hi <;> cases hi)
/-- what E meets when thrown at pc: a handler that answers c, a constant -/
def xHan (D : xD) (pc : Nat) (E : String) (c : Int32) : Prop := ∃ (pre suf : List (Nat × Nat × Nat × Nat)) (a b hp ct i n idx : Nat) (name : String),
  dh D = pre ++ (a, b, hp, ct) :: suf ∧ (∀ z ∈ pre, z.2.2.2 ≠ 0 ∧ Cond.classLink (dy D).cls z.2.2.2 NSE ∈ lw_gd ∧ E = IAE) ∧ covers ⟨a, b, hp, ct⟩ pc = true ∧ ct ≠ 0 ∧ Cond.classLink (dy D).cls ct name ∈ lw_gd ∧ Cond.castable E name ∈ lw_nw ∧ i < dn D ∧
  ((n = 1 ∧ ∃ k : Fin 4, k.val = i ∧ decode (dc D) hp = .ok (.astore_n k, 1)) ∨ (n = 2 ∧ decode (dc D) hp = .ok (.astore i, 2))) ∧ decode (dc D) (hp + n) = .ok (.ldc idx, 2) ∧ Cond.constant (dy D).cls idx c ∈ lw_gd ∧ decode (dc D) (hp + n + 2) = .ok (.ireturn, 1)
section LW
variable {g : xG} {D D' : xD} {h0 : xH} {pc : Nat} {loc : xL} {st st0 As : List Value} {h : xH} {cl : Bool} {ex : Nat}
theorem X.runsCatch {x x' : xR} {E : String} {c : Int32} (hr : xRuns g D h0 (.inl (some (.int c)), xh x', ex + xe x') pc loc st0 st h cl ex x') (hm : h.length ≤ (xh x').length ∧ szs h ≤ szs (xh x')) (hx' : xo x' = .inr E) (hret : dr D = some .int) (hh : xHan D pc E c) : X g D h0 (.inl (some (.int c)), xh x', ex + xe x') pc loc st0 h cl ex := by
  obtain ⟨pre, suf, a, b, hp, ct, i, n, idx, name, e1, e2, e3, e4, e5, e6, e7, e8, e9, e10, e11⟩ := hh
  intro p e R s m args below meth cc H locs ls C hH hS hL h1 h2
  refine W.sz (fun sz => W.ofRunX hx' (hr p e R s m args below meth cc H locs ls C hH hS hL h1 h2 sz) hS (fun H1 locs1 ce q hH1 hS1 hq hv hcls => ?_))
  have hwd : ∀ w, w ∈ lw_gd → w.before args s = true := fun w hw => C.2.1 w (gd_in hw)
  have hK := C.2.2.2.1.1
  have kk : ∀ ls', LR g ls' (dn D) (List.replicate (dn D) none) → W p (gl g) e R s m args below meth cc H1 locs1 (nC h0 h ex + nC h (xh x') (xe x')) (nS h0 h ex + nS h (xh x') (xe x')) (vx_MQ below (xQ g (.inl (some (.int c)), xh x', ex + xe x')) (xX g (.inl (some (.int c)), xh x', ex + xe x')) args s (nC h0 (xh x') (ex + xe x')) (nS h0 (xh x') (ex + xe x')) (gA g)) (F0 m (hp + n) ls' []) := by
    intro ls' hL'
    have := (X.ldcI (loc := List.replicate (dn D) none) (st := []) (x := (.inl (some (.int c)), xh x', ex + xe x')) (g := g) (D := D) (h0 := h0) (h := xh x') (cl := cl) (ex := ex + xe x') e10 rfl e9 (X.ireturn hret e11)) p e R s m args below meth cc H1 locs1 ls' C hH1 hS1 hL' (Nat.le_trans h1 hm.1) (Nat.le_trans h2 hm.2)
    rw [nC_add h1 hm.1, nS_add h2 hm.2]
    exact this
  refine vx_catch (own := (dy D).cls) (name := name) (E := E) C.1.2.2.2 (tableOf pre) ⟨a, b, hp, ct⟩ (tableOf suf) ?_ ?_ e3 e4 (hwd _ e5) (va_Nw.use rfl (hK.1.2.1 _ e6)) hq hv hcls ?_
  · rw [C.2.2.1.2.2.1, e1]
    unfold tableOf
    rw [List.map_append, List.map_cons]
  · intro z hz
    obtain ⟨y, hy, rfl⟩ := List.mem_map.mp hz
    obtain ⟨q1, q2, q3⟩ := e2 y hy
    refine Or.inr ⟨q1, NSE, hwd _ q2, ?_⟩
    rw [q3]
    exact hK.1.2.2.2.2
  · rcases e8 with ⟨rfl, k, rfl, d⟩ | ⟨rfl, d⟩
    · exact lv_astore_n C.1.1 C.1.2.1 d rfl hL.has e7 rfl (fun ls' h' => kk ls' (LR.none h'))
    · exact lv_astore C.1.1 C.1.2.1 d hL.has e7 rfl (fun ls' h' => kk ls' (LR.none h'))
/-- what a wrapper answers: the call's answer, or the handler's constant -/
def wrp (C : String → Option Int32) (r : (Int32 ⊕ String) × xH) : Option (Int32 × xH) := match r.1 with
  | .inl v => some (v, r.2)
  | .inr E => (C E).bind fun c => some (c, r.2)
theorem Y.callW {ci a N idx n : Nat} {own : String} {T : u_T} {C : String → Option Int32} (hl : xLnk own idx (dy D') ∨ xNst own idx (dy D')) (ho : (dy D).cls = own) (hc : xCal D' n) (hv : xVir D') (hd : dd D' + 1 ≤ dd D) (hci : ci < 100) (hcn : vwCl[ci]? = some ((dy D').cls, T, N)) (hn : As.length = n) (hst : st0 = As.reverse ++ .ref a :: []) (hret : dr D = some .int)
    (d : decode (dc D) pc = .ok (.invokevirtual idx, 3)) (d3 : decode (dc D) (pc + 3) = .ok (.ireturn, 1))
    (hC : ∀ E c, C E = some c → xHan D pc E c) {F : Option ((Int32 ⊕ String) × xH)} (hM : ∀ r, F = some r → XM g D' (.ref a :: As) h cl (iIx r)) : Y g D h0 cl iI ((vc h ci a F).bind (wrp C)) pc loc st0 h := by
  intro r e
  obtain ⟨r', e1, e2⟩ := Option.bind_eq_some_iff.mp e
  obtain ⟨fs, ha, e1⟩ := vc_spec e1
  have hM' := hM r' e1
  obtain ⟨u, h1⟩ := r'
  cases u with
  | inl v =>
    cases e2
    have q : Y g D h0 cl iI (some (v, h1)) (pc + 3) loc [.int v] h1 := Y.ireturn hret d3
    have q := q (v, h1) rfl
    refine ⟨xle_call hM' q.1, ?_⟩
    exact X.runs (xRuns.V hl ho hc hv hd ha hci hcn hn hst (by simp [Value.category]) hM' (fun z => ⟨z, rfl⟩) q.1 d) ⟨hM'.1, hM'.2.1⟩ rfl q.2
  | inr E =>
    obtain ⟨c, c1, c2⟩ := Option.bind_eq_some_iff.mp e2
    cases c2
    refine ⟨⟨hM'.1, hM'.2.1, Nat.zero_le _⟩, ?_⟩
    exact X.runsCatch (x := iIx (.inr E, h1)) (x' := iIx (.inr E, h1)) (xRuns.V hl ho hc hv hd ha hci hcn hn hst (by simp [Value.category]) hM' (fun z => ⟨z, rfl⟩) ⟨Nat.le_refl _, Nat.le_refl _, Nat.le_refl _⟩ d) ⟨hM'.1, hM'.2.1⟩ rfl hret (hC E c c1)
/-- a method with a table of its own that can be called -/
def xCalW (D : xD) (n : Nat) : Prop := dh D ≠ [] ∧ Cond.codeWith (dy D) (dc D) (dn D) (dr D) (dh D) ∈ lw_gd ∧ Cond.initialized (dy D).cls ∈ lw_gd ∧ ((dy D).cls ≠ "java/lang/invoke/MethodHandle" ∧ (dy D).cls ≠ "java/lang/invoke/VarHandle" ∧ (parseMethodDescriptor (dy D).desc).map (fun d => d.parameters.length) = some n) ∧ dn D ≤ 41
theorem xCalW.eq {D' : xD} {n : Nat} (hc : xCalW D' n) : dw D' = Cond.codeWith (dy D') (dc D') (dn D') (dr D') (dh D') :: lw_gd := by
  unfold dw
  split
  · rename_i e; exact absurd e hc.1
  · rfl
theorem xCalW.gi {D D' : xD} {n : Nat} (hc : xCalW D' n) : GoodIn (dw D) (dw D') := by
  intro w hw
  rw [hc.eq] at hw
  rcases List.mem_cons.mp hw with rfl | hw
  · exact ⟨gd_in hc.2.1, lw_gd_good _ hc.2.1⟩
  · exact ⟨gd_in hw, lw_gd_good _ hw⟩
theorem xRuns.SW {own : String} {idx n : Nat} {x x' : xR} {cl' : Bool} (hl : xLnk own idx (dy D')) (ho : (dy D).cls = own) (hc : xCalW D' n) (hv : xSta D') (hd : dd D' + 1 ≤ dd D) (hn : As.length = n) (hst : st0 = As.reverse ++ st) (hrm : (st.map Value.category).sum ≤ 8)
    (hM : XM g D' As h cl' x') (hcl : cl' = false → cl = false ∧ ex = 0) (hle : xle (xh x') (ex + xe x') x) (d : decode (dc D) pc = .ok (.invokestatic idx, 3)) : xRuns g D h0 x pc loc st0 st h cl ex x' := by
  intro p e R s m args below meth c H locs ls C hH hS hL h1 h2 sz
  obtain ⟨hx, hb, hml, hown⟩ := C.1
  rw [ho] at hown
  have hK := C.2.2.2.1.1
  have hp : PreS s H (xP g As h cl') (As.map (cv g)) :=
    ⟨xP_blind g _ h cl', fun U hU hW => xP_at hK hS hH (xcl_size hcl C.2.2.2.1.2.2 hH h1 sz) hU hW⟩
  have es : st0.map (cv g) = (As.map (cv g)).reverse ++ st.map (cv g) := by rw [hst, List.map_append, List.map_reverse]
  have hwd : ∀ w, w ∈ lw_gd → w.before args s = true := fun w hw => C.2.1 w (gd_in hw)
  have hf := xRuns.hf C h1 h2 ⟨hM.1, hM.2.1⟩ hle
  have hR := xRuns.hR (h := h) (x' := x') C hd hc.2.2.2.2
  have hG : GoodIn (dw D) (va_wsS own idx (dy D') (dw D')) := by
    intro w hw
    rcases List.mem_append.mp hw with hw | hw
    · simp only [List.mem_cons, List.not_mem_nil, or_false] at hw
      rcases hw with rfl | rfl | rfl
      · exact ⟨gd_in hl, lw_gd_good _ hl⟩
      · exact ⟨gd_in hv, lw_gd_good _ hv⟩
      · exact ⟨gd_in hc.2.2.1, lw_gd_good _ hc.2.2.1⟩
    · exact hc.gi w hw
  rw [es]
  exact vx_runSX (As := As.map (cv g)) (nL := dn D) ⟨hx, hb, hml, hown, C.2.1⟩ hM.2.2 (vx_cwSW n C.2.1 hG hc.eq rfl rfl hc.2.2.2.1 hR) hp rfl (by rw [List.length_map]; exact hn) hL.1.1 rfl (lv_room (xrm hrm)) d hf
theorem Y.callSWi {ρ : Type} {inj : ρ → xR} {own : String} {idx n : Nat} (hl : xLnk own idx (dy D')) (ho : (dy D).cls = own) (hc : xCalW D' n) (hv : xSta D') (hd : dd D' + 1 ≤ dd D) (hn : As.length = n) (hst : st0 = As.reverse ++ st) (hrm : (st.map Value.category).sum ≤ 8) (d : decode (dc D) pc = .ok (.invokestatic idx, 3)) {F : Option (Int32 × xH)} {K : Int32 × xH → Option ρ} (hM : ∀ r, F = some r → XM g D' As h cl (iI r))
    (kk : ∀ r, Y g D h0 cl inj (K r) (pc + 3) loc (.int r.1 :: st) r.2) : Y g D h0 cl inj (F.bind K) pc loc st0 h := by
  intro r e
  obtain ⟨r', e1, e2⟩ := Option.bind_eq_some_iff.mp e
  have hM' := hM r' e1
  have q := kk r' r e2
  refine ⟨xle_call hM' q.1, ?_⟩
  exact X.runs (xRuns.SW hl ho hc hv hd hn hst hrm hM' (fun z => ⟨z, rfl⟩) q.1 d) ⟨hM'.1, hM'.2.1⟩ rfl q.2
end LW
