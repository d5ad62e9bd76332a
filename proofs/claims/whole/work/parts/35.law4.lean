/-! THE LAW'S OWN JUDGEMENT: exceptions counted -/
def YE {ρ : Type} (g : xG) (D : xD) (h0 : xH) (cl : Bool) (inj : ρ → xR) (o : Option ρ) (pc : Nat) (loc : xL) (st : List Value) (h : xH) (ex : Nat) : Prop :=
  ∀ r, o = some r → xle h ex (inj r) ∧ X g D h0 (inj r) pc loc st h cl ex
def sc (S : List Int32) (i : Int32) : Option Int32 := if ain i S.length then some (S.getD i.toNatClampNeg 0) else none
section YER
variable {ρ : Type} {g : xG} {D D' : xD} {h0 : xH} {cl : Bool} {inj : ρ → xR} {o : Option ρ} {pc : Nat} {loc : xL} {st st0 As : List Value} {h : xH} {ex : Nat} {own : String} {idx n : Nat}
theorem YE.op {pc' : Nat} {loc' : xL} {st' : List Value} (f : ∀ x, X g D h0 x pc' loc' st' h cl ex → X g D h0 x pc loc st h cl ex) (k : YE g D h0 cl inj o pc' loc' st' h ex) : YE g D h0 cl inj o pc loc st h ex :=
  fun r e => ⟨(k r e).1, f _ (k r e).2⟩
theorem YE.nothing : YE g D h0 cl inj none pc loc st h ex := fun r e => nomatch e
theorem YE.fg {loc' : xL} (k : YE g D h0 cl inj o pc loc' st h ex) (q : xsub loc' loc) : YE g D h0 cl inj o pc loc st h ex := by
  refine fun r e => ⟨(k r e).1, ?_⟩
  intro p e' R s m args below meth c H locs ls C hH hS hL h1 h2
  obtain ⟨q1, q2⟩ := xsub_spec q
  exact (k r e).2 p e' R s m args below meth c H locs ls C hH hS ⟨hL.1, q1.trans hL.2.1, fun i v hi => hL.2.2 i v (q2 i v hi)⟩ h1 h2
theorem YE.ite {c : Prop} [Decidable c] {o1 o2 : Option ρ} (hc : c → YE g D h0 cl inj o1 pc loc st h ex) (hn : ¬ c → YE g D h0 cl inj o2 pc loc st h ex) : YE g D h0 cl inj (if c then o1 else o2) pc loc st h ex := by
  by_cases q : c
  · rw [if_pos q]; exact hc q
  · rw [if_neg q]; exact hn q
theorem YE.ifeq {a : Int32} {off : Int} {o1 o2 : Option ρ} (tgt : Nat) (ht : (pc : Int) + off = (tgt : Int)) (d : decode (dc D) pc = .ok (.ifCond .eq off, 3)) (k1 : YE g D h0 cl inj o1 tgt loc st h ex) (k2 : YE g D h0 cl inj o2 (pc + 3) loc st h ex) : YE g D h0 cl inj (if a = 0 then o1 else o2) pc loc (.int a :: st) h ex :=
  YE.ite (fun q r e => ⟨(k1 r e).1, X.ifeq tgt ht d (fun _ => (k1 r e).2) (fun z => absurd q z)⟩) (fun q r e => ⟨(k2 r e).1, X.ifeq tgt ht d (fun z => absurd z q) (fun _ => (k2 r e).2)⟩)
theorem YE.ifne {a : Int32} {off : Int} {o1 o2 : Option ρ} (tgt : Nat) (ht : (pc : Int) + off = (tgt : Int)) (d : decode (dc D) pc = .ok (.ifCond .ne off, 3)) (k1 : YE g D h0 cl inj o1 tgt loc st h ex) (k2 : YE g D h0 cl inj o2 (pc + 3) loc st h ex) : YE g D h0 cl inj (if a = 0 then o2 else o1) pc loc (.int a :: st) h ex :=
  YE.ite (fun q r e => ⟨(k2 r e).1, X.ifne tgt ht d (fun z => absurd q z) (fun _ => (k2 r e).2)⟩) (fun q r e => ⟨(k1 r e).1, X.ifne tgt ht d (fun _ => (k1 r e).2) (fun z => absurd z q)⟩)
theorem YE.cmpeq {a b : Int32} {off : Int} {o1 o2 : Option ρ} (tgt : Nat) (ht : (pc : Int) + off = (tgt : Int)) (d : decode (dc D) pc = .ok (.if_icmp .eq off, 3)) (k1 : YE g D h0 cl inj o1 tgt loc st h ex) (k2 : YE g D h0 cl inj o2 (pc + 3) loc st h ex) : YE g D h0 cl inj (if a = b then o1 else o2) pc loc (.int b :: .int a :: st) h ex :=
  YE.ite (fun q r e => ⟨(k1 r e).1, X.cmpeq tgt ht d (fun _ => (k1 r e).2) (fun z => absurd q z)⟩) (fun q r e => ⟨(k2 r e).1, X.cmpeq tgt ht d (fun z => absurd z q) (fun _ => (k2 r e).2)⟩)
theorem YE.cmpgt {a b : Int32} {off : Int} {o1 o2 : Option ρ} (tgt : Nat) (ht : (pc : Int) + off = (tgt : Int)) (d : decode (dc D) pc = .ok (.if_icmp .gt off, 3)) (k1 : YE g D h0 cl inj o1 tgt loc st h ex) (k2 : YE g D h0 cl inj o2 (pc + 3) loc st h ex) : YE g D h0 cl inj (if a > b then o1 else o2) pc loc (.int b :: .int a :: st) h ex :=
  YE.ite (fun q r e => ⟨(k1 r e).1, X.cmpgt tgt ht d (fun _ => (k1 r e).2) (fun z => absurd q z)⟩) (fun q r e => ⟨(k2 r e).1, X.cmpgt tgt ht d (fun z => absurd z q) (fun _ => (k2 r e).2)⟩)
theorem YE.iinc {i : Nat} {n : Int} {a b : Int32} {loc' : Int32 → xL} {K : Int32 → Option ρ} (hl : loc[i]? = some (some (.int a))) (hi : i < loc.length) (hb : Int32.ofInt n = b) (he : ∀ v, st1 loc i (.int v) = loc' v) (d : decode (dc D) pc = .ok (.iinc i n, 3)) (kk : ∀ v, YE g D h0 cl inj (K v) (pc + 3) (loc' v) st h ex) : YE g D h0 cl inj (lt (a + b) K) pc loc st h ex :=
  fun r e => ⟨(kk (a + b) r e).1, X.iinc hl hi (by rw [hb]) (he (a + b)) d (kk (a + b) r e).2⟩
theorem YE.tswf {dflt lo hi : Int} {offs : Array Int} {len : Nat} {a : Int32} {F : Nat → Option ρ} {dt : Nat} (htd : (pc : Int) + dflt = (dt : Int)) (d : decode (dc D) pc = .ok (.tableswitch dflt lo hi offs, len)) (hsz : offs.size = (hi - lo + 1).toNat) (kd : YE g D h0 cl inj o dt loc st h ex)
    (ki : ∀ k, k < offs.size → ∃ (tgt : Nat) (off : Int), offs[k]? = some off ∧ (pc : Int) + off = (tgt : Int) ∧ YE g D h0 cl inj (F k) tgt loc st h ex) : YE g D h0 cl inj (if a.toInt < lo ∨ hi < a.toInt then o else tsf F (a.toInt - lo).toNat) pc loc (.int a :: st) h ex := by
  refine YE.ite (fun q r e => ⟨(kd r e).1, X.tswOut dt q htd d (kd r e).2⟩) (fun q r e => ?_)
  have q1 : ¬ a.toInt < lo := fun z => q (Or.inl z)
  have q2 : ¬ hi < a.toInt := fun z => q (Or.inr z)
  obtain ⟨tgt, off, e1, e2, k9⟩ := ki (a.toInt - lo).toNat (by rw [hsz]; omega)
  exact ⟨(k9 r e).1, X.tswIn tgt q1 q2 e1 e2 d (k9 r e).2⟩
theorem X.scrLen {x : xR} (d : decode (dc D) pc = .ok (.arraylength, 1)) (k : X g D h0 x (pc + 1) loc (.int (Int32.ofNat (gX g).length) :: st) h cl ex) : X g D h0 x pc loc (.ref 1000000 :: st) h cl ex := by
  intro p e R s m args below meth c H locs ls C hH hS hL h1 h2
  have ea : cv g (.ref 1000000) = .ref (gS g 0) := by
    show cv g (.ref (1000000 + 0)) = _
    rw [gad_c]
  rw [List.map_cons, ea]
  exact va_tlen C.1.1 C.1.2.1 C.2.2.2.1.1.2.1.2.1 hS rfl d (k p e R s m args below meth c H locs ls C hH hS hL h1 h2)
theorem YE.sald {i : Int32} {K : Int32 → Option ρ} (d : decode (dc D) pc = .ok (.iaload, 1)) (kk : ∀ v, YE g D h0 cl inj (K v) (pc + 1) loc (.int v :: st) h ex) : YE g D h0 cl inj ((sc (gX g) i).bind K) pc loc (.int i :: .ref 1000000 :: st) h ex := by
  intro r e
  obtain ⟨v, e1, e2⟩ := Option.bind_eq_some_iff.mp e
  unfold sc at e1
  split at e1
  · rename_i q
    cases e1
    exact ⟨(kk _ r e2).1, X.sald (ain_in q) d (kk _ r e2).2⟩
  · cases e1
theorem YE.aldJ {a : Nat} {i : Int32} {K : Int64 → Option ρ} (d : decode (dc D) pc = .ok (.laload, 1)) (kk : ∀ v, YE g D h0 cl inj (K v) (pc + 1) loc (.long v :: st) h ex) : YE g D h0 cl inj ((aJ h a i).bind K) pc loc (.int i :: .ref a :: st) h ex := by
  intro r e
  obtain ⟨v, e1, e2⟩ := Option.bind_eq_some_iff.mp e
  unfold aJ at e1
  cases hc : h[a]? with
  | none => rw [hc] at e1; cases e1
  | some c =>
    rw [hc] at e1
    simp only at e1
    split at e1
    · rename_i q
      obtain ⟨q1, q2⟩ := q
      obtain ⟨c1, c2⟩ := c
      simp only at q1 q2
      subst q1
      cases e1
      exact ⟨(kk _ r e2).1, X.lald hc (ain_in q2) d (kk _ r e2).2⟩
    · cases e1
theorem xle_callE {x' x : xR} {ex' : Nat} (hM : XM g D' As h true x') (q : xle (xh x') ex' x) (he : ex ≤ ex') : xle h ex x := ⟨Nat.le_trans hM.1 q.1, Nat.le_trans hM.2.1 q.2.1, Nat.le_trans he q.2.2⟩
theorem YE.callVi {ci a N : Nat} {T : u_T} (hl : xLnk own idx (dy D') ∨ xNst own idx (dy D')) (ho : (dy D).cls = own) (hc : xCal D' n) (hv : xVir D') (hd : dd D' + 1 ≤ dd D) (hci : ci < 100) (hcn : vwCl[ci]? = some ((dy D').cls, T, N)) (hn : As.length = n) (hst : st0 = As.reverse ++ .ref a :: st) (hrm : (st.map Value.category).sum ≤ 8) (d : decode (dc D) pc = .ok (.invokevirtual idx, 3)) {F : Option (Int32 × xH)} {K : Int32 × xH → Option ρ} (hM : ∀ r, F = some r → XM g D' (.ref a :: As) h true (iI r))
    (kk : ∀ r, YE g D h0 cl inj (K r) (pc + 3) loc (.int r.1 :: st) r.2 ex) : YE g D h0 cl inj ((vc h ci a F).bind K) pc loc st0 h ex := by
  intro r e
  obtain ⟨r', e1, e2⟩ := Option.bind_eq_some_iff.mp e
  obtain ⟨fs, ha, e1⟩ := vc_spec e1
  have hM' := hM r' e1
  have q := kk r' r e2
  refine ⟨xle_callE hM' q.1 (Nat.le_refl _), ?_⟩
  exact X.runs (x' := iI r') (xRuns.V hl ho hc hv hd ha hci hcn hn hst hrm hM' (fun z => by cases z) q.1 d) ⟨hM'.1, hM'.2.1⟩ rfl q.2
theorem YE.callVj {ci a N : Nat} {T : u_T} (hl : xLnk own idx (dy D') ∨ xNst own idx (dy D')) (ho : (dy D).cls = own) (hc : xCal D' n) (hv : xVir D') (hd : dd D' + 1 ≤ dd D) (hci : ci < 100) (hcn : vwCl[ci]? = some ((dy D').cls, T, N)) (hn : As.length = n) (hst : st0 = As.reverse ++ .ref a :: st) (hrm : (st.map Value.category).sum ≤ 8) (d : decode (dc D) pc = .ok (.invokevirtual idx, 3)) {F : Option (Int64 × xH)} {K : Int64 × xH → Option ρ} (hM : ∀ r, F = some r → XM g D' (.ref a :: As) h true (iJ r))
    (kk : ∀ r, YE g D h0 cl inj (K r) (pc + 3) loc (.long r.1 :: st) r.2 ex) : YE g D h0 cl inj ((vc h ci a F).bind K) pc loc st0 h ex := by
  intro r e
  obtain ⟨r', e1, e2⟩ := Option.bind_eq_some_iff.mp e
  obtain ⟨fs, ha, e1⟩ := vc_spec e1
  have hM' := hM r' e1
  have q := kk r' r e2
  refine ⟨xle_callE hM' q.1 (Nat.le_refl _), ?_⟩
  exact X.runs (x' := iJ r') (xRuns.V hl ho hc hv hd ha hci hcn hn hst hrm hM' (fun z => by cases z) q.1 d) ⟨hM'.1, hM'.2.1⟩ rfl q.2
theorem YE.callW (hl : xLnk own idx (dy D')) (ho : (dy D).cls = own) (hc : xCalW D' n) (hv : xSta D') (hd : dd D' + 1 ≤ dd D) (hn : As.length = n) (hst : st0 = As.reverse ++ st) (hrm : (st.map Value.category).sum ≤ 8) (d : decode (dc D) pc = .ok (.invokestatic idx, 3)) {F : Option (Int32 × xH × Nat)} {K : Int32 × xH × Nat → Option ρ} (hM : ∀ r, F = some r → XM g D' As h true (iW r))
    (kk : ∀ r, YE g D h0 cl inj (K r) (pc + 3) loc (.int r.1 :: st) r.2.1 (ex + r.2.2)) : YE g D h0 cl inj (F.bind K) pc loc st0 h ex := by
  intro r e
  obtain ⟨r', e1, e2⟩ := Option.bind_eq_some_iff.mp e
  have hM' := hM r' e1
  have q := kk r' r e2
  refine ⟨xle_callE hM' q.1 (Nat.le_add_right _ _), ?_⟩
  exact X.runs (x' := iW r') (xRuns.SW hl ho hc hv hd hn hst hrm hM' (fun z => by cases z) q.1 d) ⟨hM'.1, hM'.2.1⟩ rfl q.2
theorem YE.zret {v : Int32} (hr : dr D = some .boolean) (hv : v &&& 1 = v) (d : decode (dc D) pc = .ok (.ireturn, 1)) : YE g D h0 cl iW (some (v, h, ex)) pc loc [.int v] h ex := fun r e => by
  cases e
  exact ⟨⟨Nat.le_refl _, Nat.le_refl _, Nat.le_refl _⟩, X.zreturn hr hv d⟩
end YER
