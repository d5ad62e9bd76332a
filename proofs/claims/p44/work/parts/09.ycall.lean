/-! Y OF CALLS -/
/-- the receiver is there -/
def vc {β : Type} (h : xH) (ci a : Nat) (o : Option β) : Option β := match h[a]? with
  | some c => if c.1 = ci then o else none
  | none => none
def nl {β : Type} (o : Option Nat) (A : β) (B : Nat → β) : β := match o with
  | none => A
  | some a => B a
def thr {α β : Type} (r : (α ⊕ String) × xH) (K : xH → Option ((β ⊕ String) × xH)) : Option ((β ⊕ String) × xH) := match r.1 with
  | .inl _ => K r.2
  | .inr E => some (.inr E, r.2)
theorem vc_spec {β : Type} {h : xH} {ci a : Nat} {o : Option β} {r : β} (e : vc h ci a o = some r) : ∃ fs, h[a]? = some (ci, fs) ∧ o = some r := by
  unfold vc at e
  cases hc : h[a]? with
  | none => rw [hc] at e; cases e
  | some c =>
    rw [hc] at e
    simp only at e
    split at e
    · rename_i q
      subst q
      exact ⟨c.2, rfl, e⟩
    · cases e
theorem xle_call {g : xG} {D' : xD} {As : List Value} {h : xH} {cl : Bool} {x' x : xR} (hM : XM g D' As h cl x') (q : xle (xh x') 0 x) : xle h 0 x := ⟨Nat.le_trans hM.1 q.1, Nat.le_trans hM.2.1 q.2.1, q.2.2⟩
section YC
variable {ρ : Type} {g : xG} {D D' : xD} {h0 : xH} {cl : Bool} {inj : ρ → xR} {pc : Nat} {loc : xL} {st st0 As : List Value} {h : xH} {own : String} {idx n : Nat}
theorem Y.callVi {ci a N : Nat} {T : u_T} (hl : xLnk own idx (dy D') ∨ xNst own idx (dy D')) (ho : (dy D).cls = own) (hc : xCal D' n) (hv : xVir D') (hd : dd D' + 1 ≤ dd D) (hci : ci < 100) (hcn : vwCl[ci]? = some ((dy D').cls, T, N)) (hn : As.length = n) (hst : st0 = As.reverse ++ .ref a :: st) (hrm : (st.map Value.category).sum ≤ 8) (d : decode (dc D) pc = .ok (.invokevirtual idx, 3)) {F : Option (Int32 × xH)} {K : Int32 × xH → Option ρ} (hM : ∀ r, F = some r → XM g D' (.ref a :: As) h cl (iI r))
    (kk : ∀ r, Y g D h0 cl inj (K r) (pc + 3) loc (.int r.1 :: st) r.2) : Y g D h0 cl inj ((vc h ci a F).bind K) pc loc st0 h := by
  intro r e
  obtain ⟨r', e1, e2⟩ := Option.bind_eq_some_iff.mp e
  obtain ⟨fs, ha, e1⟩ := vc_spec e1
  have hM' := hM r' e1
  have q := kk r' r e2
  refine ⟨xle_call hM' q.1, ?_⟩
  exact X.runs (xRuns.V hl ho hc hv hd ha hci hcn hn hst hrm hM' (fun z => ⟨z, rfl⟩) q.1 d) ⟨hM'.1, hM'.2.1⟩ rfl q.2
theorem Y.callSi (hl : xLnk own idx (dy D') ∨ xNst own idx (dy D')) (ho : (dy D).cls = own) (hc : xCal D' n) (hv : xSta D') (hd : dd D' + 1 ≤ dd D) (hn : As.length = n) (hst : st0 = As.reverse ++ st) (hrm : (st.map Value.category).sum ≤ 8) (d : decode (dc D) pc = .ok (.invokestatic idx, 3)) {F : Option (Int32 × xH)} {K : Int32 × xH → Option ρ} (hM : ∀ r, F = some r → XM g D' As h cl (iI r))
    (kk : ∀ r, Y g D h0 cl inj (K r) (pc + 3) loc (.int r.1 :: st) r.2) : Y g D h0 cl inj (F.bind K) pc loc st0 h := by
  intro r e
  obtain ⟨r', e1, e2⟩ := Option.bind_eq_some_iff.mp e
  have hM' := hM r' e1
  have q := kk r' r e2
  refine ⟨xle_call hM' q.1, ?_⟩
  exact X.runs (xRuns.S hl ho hc hv hd hn hst hrm hM' (fun z => ⟨z, rfl⟩) q.1 d) ⟨hM'.1, hM'.2.1⟩ rfl q.2
theorem Y.callVj {ci a N : Nat} {T : u_T} (hl : xLnk own idx (dy D') ∨ xNst own idx (dy D')) (ho : (dy D).cls = own) (hc : xCal D' n) (hv : xVir D') (hd : dd D' + 1 ≤ dd D) (hci : ci < 100) (hcn : vwCl[ci]? = some ((dy D').cls, T, N)) (hn : As.length = n) (hst : st0 = As.reverse ++ .ref a :: st) (hrm : (st.map Value.category).sum ≤ 8) (d : decode (dc D) pc = .ok (.invokevirtual idx, 3)) {F : Option (Int64 × xH)} {K : Int64 × xH → Option ρ} (hM : ∀ r, F = some r → XM g D' (.ref a :: As) h cl (iJ r))
    (kk : ∀ r, Y g D h0 cl inj (K r) (pc + 3) loc (.long r.1 :: st) r.2) : Y g D h0 cl inj ((vc h ci a F).bind K) pc loc st0 h := by
  intro r e
  obtain ⟨r', e1, e2⟩ := Option.bind_eq_some_iff.mp e
  obtain ⟨fs, ha, e1⟩ := vc_spec e1
  have hM' := hM r' e1
  have q := kk r' r e2
  refine ⟨xle_call hM' q.1, ?_⟩
  exact X.runs (xRuns.V hl ho hc hv hd ha hci hcn hn hst hrm hM' (fun z => ⟨z, rfl⟩) q.1 d) ⟨hM'.1, hM'.2.1⟩ rfl q.2
theorem Y.callSj (hl : xLnk own idx (dy D') ∨ xNst own idx (dy D')) (ho : (dy D).cls = own) (hc : xCal D' n) (hv : xSta D') (hd : dd D' + 1 ≤ dd D) (hn : As.length = n) (hst : st0 = As.reverse ++ st) (hrm : (st.map Value.category).sum ≤ 8) (d : decode (dc D) pc = .ok (.invokestatic idx, 3)) {F : Option (Int64 × xH)} {K : Int64 × xH → Option ρ} (hM : ∀ r, F = some r → XM g D' As h cl (iJ r))
    (kk : ∀ r, Y g D h0 cl inj (K r) (pc + 3) loc (.long r.1 :: st) r.2) : Y g D h0 cl inj (F.bind K) pc loc st0 h := by
  intro r e
  obtain ⟨r', e1, e2⟩ := Option.bind_eq_some_iff.mp e
  have hM' := hM r' e1
  have q := kk r' r e2
  refine ⟨xle_call hM' q.1, ?_⟩
  exact X.runs (xRuns.S hl ho hc hv hd hn hst hrm hM' (fun z => ⟨z, rfl⟩) q.1 d) ⟨hM'.1, hM'.2.1⟩ rfl q.2
theorem Y.callVv {ci a N : Nat} {T : u_T} (hl : xLnk own idx (dy D') ∨ xNst own idx (dy D')) (ho : (dy D).cls = own) (hc : xCal D' n) (hv : xVir D') (hd : dd D' + 1 ≤ dd D) (hci : ci < 100) (hcn : vwCl[ci]? = some ((dy D').cls, T, N)) (hn : As.length = n) (hst : st0 = As.reverse ++ .ref a :: st) (hrm : (st.map Value.category).sum ≤ 8) (d : decode (dc D) pc = .ok (.invokevirtual idx, 3)) {F : Option (xH)} {K : xH → Option ρ} (hM : ∀ r, F = some r → XM g D' (.ref a :: As) h cl (iV r))
    (kk : ∀ r, Y g D h0 cl inj (K r) (pc + 3) loc (st) r) : Y g D h0 cl inj ((vc h ci a F).bind K) pc loc st0 h := by
  intro r e
  obtain ⟨r', e1, e2⟩ := Option.bind_eq_some_iff.mp e
  obtain ⟨fs, ha, e1⟩ := vc_spec e1
  have hM' := hM r' e1
  have q := kk r' r e2
  refine ⟨xle_call hM' q.1, ?_⟩
  exact X.runs (xRuns.V hl ho hc hv hd ha hci hcn hn hst hrm hM' (fun z => ⟨z, rfl⟩) q.1 d) ⟨hM'.1, hM'.2.1⟩ rfl q.2
theorem Y.callSv (hl : xLnk own idx (dy D') ∨ xNst own idx (dy D')) (ho : (dy D).cls = own) (hc : xCal D' n) (hv : xSta D') (hd : dd D' + 1 ≤ dd D) (hn : As.length = n) (hst : st0 = As.reverse ++ st) (hrm : (st.map Value.category).sum ≤ 8) (d : decode (dc D) pc = .ok (.invokestatic idx, 3)) {F : Option (xH)} {K : xH → Option ρ} (hM : ∀ r, F = some r → XM g D' As h cl (iV r))
    (kk : ∀ r, Y g D h0 cl inj (K r) (pc + 3) loc (st) r) : Y g D h0 cl inj (F.bind K) pc loc st0 h := by
  intro r e
  obtain ⟨r', e1, e2⟩ := Option.bind_eq_some_iff.mp e
  have hM' := hM r' e1
  have q := kk r' r e2
  refine ⟨xle_call hM' q.1, ?_⟩
  exact X.runs (xRuns.S hl ho hc hv hd hn hst hrm hM' (fun z => ⟨z, rfl⟩) q.1 d) ⟨hM'.1, hM'.2.1⟩ rfl q.2
theorem Y.callVn {ci a N : Nat} {T : u_T} (hl : xLnk own idx (dy D') ∨ xNst own idx (dy D')) (ho : (dy D).cls = own) (hc : xCal D' n) (hv : xVir D') (hd : dd D' + 1 ≤ dd D) (hci : ci < 100) (hcn : vwCl[ci]? = some ((dy D').cls, T, N)) (hn : As.length = n) (hst : st0 = As.reverse ++ .ref a :: st) (hrm : (st.map Value.category).sum ≤ 8) (d : decode (dc D) pc = .ok (.invokevirtual idx, 3)) {F : Option (Option Nat × xH)} {K : Option Nat × xH → Option ρ} (hM : ∀ r, F = some r → XM g D' (.ref a :: As) h cl (iN r))
    (kk : ∀ r, Y g D h0 cl inj (K r) (pc + 3) loc (rv r.1 :: st) r.2) : Y g D h0 cl inj ((vc h ci a F).bind K) pc loc st0 h := by
  intro r e
  obtain ⟨r', e1, e2⟩ := Option.bind_eq_some_iff.mp e
  obtain ⟨fs, ha, e1⟩ := vc_spec e1
  have hM' := hM r' e1
  have q := kk r' r e2
  refine ⟨xle_call hM' q.1, ?_⟩
  exact X.runs (xRuns.V hl ho hc hv hd ha hci hcn hn hst hrm hM' (fun z => ⟨z, rfl⟩) q.1 d) ⟨hM'.1, hM'.2.1⟩ rfl q.2
theorem Y.callSn (hl : xLnk own idx (dy D') ∨ xNst own idx (dy D')) (ho : (dy D).cls = own) (hc : xCal D' n) (hv : xSta D') (hd : dd D' + 1 ≤ dd D) (hn : As.length = n) (hst : st0 = As.reverse ++ st) (hrm : (st.map Value.category).sum ≤ 8) (d : decode (dc D) pc = .ok (.invokestatic idx, 3)) {F : Option (Option Nat × xH)} {K : Option Nat × xH → Option ρ} (hM : ∀ r, F = some r → XM g D' As h cl (iN r))
    (kk : ∀ r, Y g D h0 cl inj (K r) (pc + 3) loc (rv r.1 :: st) r.2) : Y g D h0 cl inj (F.bind K) pc loc st0 h := by
  intro r e
  obtain ⟨r', e1, e2⟩ := Option.bind_eq_some_iff.mp e
  have hM' := hM r' e1
  have q := kk r' r e2
  refine ⟨xle_call hM' q.1, ?_⟩
  exact X.runs (xRuns.S hl ho hc hv hd hn hst hrm hM' (fun z => ⟨z, rfl⟩) q.1 d) ⟨hM'.1, hM'.2.1⟩ rfl q.2
theorem Y.callVx {ci a N : Nat} {T : u_T} (hl : xLnk own idx (dy D') ∨ xNst own idx (dy D')) (ho : (dy D).cls = own) (hc : xCal D' n) (hv : xVir D') (hd : dd D' + 1 ≤ dd D) (hci : ci < 100) (hcn : vwCl[ci]? = some ((dy D').cls, T, N)) (hn : As.length = n) (hst : st0 = As.reverse ++ .ref a :: st) (hrm : (st.map Value.category).sum ≤ 8) (ht : dh D = []) (d : decode (dc D) pc = .ok (.invokevirtual idx, 3)) {F : Option ((Unit ⊕ String) × xH)} {K : xH → Option ((Int32 ⊕ String) × xH)} (hM : ∀ r, F = some r → XM g D' (.ref a :: As) h cl (iVx r))
    (kk : ∀ h', Y g D h0 cl iIx (K h') (pc + 3) loc st h') : Y g D h0 cl iIx ((vc h ci a F).bind (fun r => thr r K)) pc loc st0 h := by
  intro r e
  obtain ⟨r', e1, e2⟩ := Option.bind_eq_some_iff.mp e
  obtain ⟨fs, ha, e1⟩ := vc_spec e1
  have hM' := hM r' e1
  obtain ⟨o, h1⟩ := r'
  cases o with
  | inl u =>
    have q := kk h1 r e2
    refine ⟨xle_call hM' q.1, ?_⟩
    exact X.runs (xRuns.V hl ho hc hv hd ha hci hcn hn hst hrm hM' (fun z => ⟨z, rfl⟩) q.1 d) ⟨hM'.1, hM'.2.1⟩ rfl q.2
  | inr E =>
    cases e2
    refine ⟨⟨hM'.1, hM'.2.1, Nat.zero_le _⟩, ?_⟩
    exact X.runsOut (x' := iVx (.inr E, h1)) (xRuns.V hl ho hc hv hd ha hci hcn hn hst hrm hM' (fun z => ⟨z, rfl⟩) ⟨Nat.le_refl _, Nat.le_refl _, Nat.le_refl _⟩ d) ⟨hM'.1, hM'.2.1⟩ rfl ht
end YC
section YE
variable {ρ : Type} {g : xG} {D : xD} {h0 : xH} {cl : Bool} {inj : ρ → xR} {pc : Nat} {loc : xL} {h : xH}
theorem Y.ireturn {v : Int32} (hr : dr D = some .int) (d : decode (dc D) pc = .ok (.ireturn, 1)) : Y g D h0 cl iI (some (v, h)) pc loc [.int v] h := fun r e => by
  cases e
  exact ⟨⟨Nat.le_refl _, Nat.le_refl _, Nat.le_refl _⟩, X.ireturn hr d⟩
theorem Y.ireturnx {v : Int32} (hr : dr D = some .int) (d : decode (dc D) pc = .ok (.ireturn, 1)) : Y g D h0 cl iIx (some (.inl v, h)) pc loc [.int v] h := fun r e => by
  cases e
  exact ⟨⟨Nat.le_refl _, Nat.le_refl _, Nat.le_refl _⟩, X.ireturn hr d⟩
theorem Y.zreturn {v : Int32} (hr : dr D = some .boolean) (d : decode (dc D) pc = .ok (.ireturn, 1)) : Y g D h0 cl iI (if v = 0 ∨ v = 1 then some (v, h) else none) pc loc [.int v] h := fun r e => by
  split at e
  · rename_i q
    cases e
    refine ⟨⟨Nat.le_refl _, Nat.le_refl _, Nat.le_refl _⟩, X.zreturn hr ?_ d⟩
    rcases q with rfl | rfl
    · show (0 : Int32) &&& 1 = 0; decide
    · show (1 : Int32) &&& 1 = 1; decide
  · cases e
theorem Y.lreturn {v : Int64} (hr : dr D = some .long) (d : decode (dc D) pc = .ok (.lreturn, 1)) : Y g D h0 cl iJ (some (v, h)) pc loc [.long v] h := fun r e => by
  cases e
  exact ⟨⟨Nat.le_refl _, Nat.le_refl _, Nat.le_refl _⟩, X.lreturn hr d⟩
theorem Y.vreturn (hr : dr D = none) (d : decode (dc D) pc = .ok (.return_, 1)) : Y g D h0 cl iV (some h) pc loc [] h := fun r e => by
  cases e
  exact ⟨⟨Nat.le_refl _, Nat.le_refl _, Nat.le_refl _⟩, X.vreturn hr d⟩
theorem Y.areturn {o : Option Nat} {n : String} (hr : dr D = some (.object n)) (d : decode (dc D) pc = .ok (.areturn, 1)) : Y g D h0 cl iN (some (o, h)) pc loc [rv o] h := fun r e => by
  cases e
  refine ⟨⟨Nat.le_refl _, Nat.le_refl _, Nat.le_refl _⟩, X.areturn hr (Or.inl ⟨_, rfl⟩) ?_ d⟩
  cases o with
  | none => exact Or.inl rfl
  | some a => exact Or.inr ⟨a, rfl⟩
theorem YM.of {args : List Value} {o : Option ρ} {r : ρ} (hp : plainName (dy D).cls = true) (ht : dh D = []) (hn : (xent args).length ≤ dn D) (k : Y g D h cl inj o 0 (xloc (dn D) args) [] h) (e : o = some r) : XM g D args h cl (inj r) :=
  XM.of hp ht hn (k r e).1.1 (k r e).1.2.1 (k r e).2
end YE
