/-! more rules; the members that are done by hand -/
section XR
variable {g : xG} {D : xD} {h0 : xH} {x : xR} {pc : Nat} {loc : xL} {st : List Value} {h : xH} {cl : Bool} {ex : Nat}
theorem X.ic {n : Int} {v : Int32} (hv : Int32.ofInt n = v) (d : decode (dc D) pc = .ok (.iconst n, 1)) (k : X g D h0 x (pc + 1) loc (.int v :: st) h cl ex) : X g D h0 x pc loc st h cl ex := X.lift (fun hx hb w => lv_iconst hx hb d hv w) k
theorem X.bp {n : Int} {v : Int32} (hv : (Int8.ofInt n).toInt32 = v) (d : decode (dc D) pc = .ok (.bipush n, 2)) (k : X g D h0 x (pc + 2) loc (.int v :: st) h cl ex) : X g D h0 x pc loc st h cl ex := X.lift (fun hx hb w => lv_bipush hx hb d hv w) k
theorem X.sp {n : Int} {v : Int32} (hv : (Int16.ofInt n).toInt32 = v) (d : decode (dc D) pc = .ok (.sipush n, 3)) (k : X g D h0 x (pc + 3) loc (.int v :: st) h cl ex) : X g D h0 x pc loc st h cl ex := X.lift (fun hx hb w => lv_sipush hx hb d hv w) k
theorem X.lc {n : Fin 2} {v : Int64} (hv : Int64.ofNat (n : Nat) = v) (d : decode (dc D) pc = .ok (.lconst n, 1)) (k : X g D h0 x (pc + 1) loc (.long v :: st) h cl ex) : X g D h0 x pc loc st h cl ex := X.lift (fun hx hb w => lv_lconst hx hb d hv w) k
theorem X.ldcwI {own : String} {idx : Nat} {v : Int32} (hw : Cond.constant own idx v ∈ lw_gd) (ho : (dy D).cls = own) (d : decode (dc D) pc = .ok (.ldc_w idx, 3)) (k : X g D h0 x (pc + 3) loc (.int v :: st) h cl ex) : X g D h0 x pc loc st h cl ex := by
  intro p e R s m args below meth c H locs ls C hH hS hL h1 h2
  obtain ⟨hx, hb, -, hown⟩ := C.1
  rw [ho] at hown
  exact lv_ldcw hx hb hown (C.2.1 _ (gd_in hw)) d (k p e R s m args below meth c H locs ls C hH hS hL h1 h2)
theorem X.aloadO {i : Fin 4} {o : Option Nat} (hl : loc[i.val]? = some (some (rv o))) (d : decode (dc D) pc = .ok (.aload_n i, 1)) (k : X g D h0 x (pc + 1) loc (rv o :: st) h cl ex) : X g D h0 x pc loc st h cl ex := by
  cases o with
  | none => exact X.aloadnN hl d k
  | some a => exact X.aloadn hl d k
theorem X.astoreO {i : Fin 4} {o : Option Nat} {loc' : xL} (hi : i.val < loc.length) (he : st1 loc i.val (rv o) = loc') (d : decode (dc D) pc = .ok (.astore_n i, 1)) (k : X g D h0 x (pc + 1) loc' st h cl ex) : X g D h0 x pc loc (rv o :: st) h cl ex := by
  cases o with
  | none => exact X.astorenN hi he d k
  | some a => exact X.astoren hi he d k
end XR
section YR
variable {ρ : Type} {g : xG} {D : xD} {h0 : xH} {cl : Bool} {inj : ρ → xR} {o : Option ρ} {pc : Nat} {loc : xL} {st : List Value} {h : xH}
theorem Y.fg {loc' : xL} (k : Y g D h0 cl inj o pc loc' st h) (q : xsub loc' loc) : Y g D h0 cl inj o pc loc st h := Y.forget q k
theorem Y.iinc {i : Nat} {n : Int} {a b : Int32} {loc' : Int32 → xL} {K : Int32 → Option ρ} (hl : loc[i]? = some (some (.int a))) (hi : i < loc.length) (hb : Int32.ofInt n = b) (he : ∀ v, st1 loc i (.int v) = loc' v) (d : decode (dc D) pc = .ok (.iinc i n, 3)) (kk : ∀ v, Y g D h0 cl inj (K v) (pc + 3) (loc' v) st h) : Y g D h0 cl inj (lt (a + b) K) pc loc st h :=
  fun r e => ⟨(kk (a + b) r e).1, X.iinc hl hi (by rw [hb]) (he (a + b)) d (kk (a + b) r e).2⟩
theorem Y.tsw {dflt lo hi : Int} {offs : Array Int} {len : Nat} {a : Int32} {F : Nat → Option ρ} {dt : Nat} (htd : (pc : Int) + dflt = (dt : Int)) (d : decode (dc D) pc = .ok (.tableswitch dflt lo hi offs, len)) (hsz : offs.size = (hi - lo + 1).toNat) (kd : Y g D h0 cl inj o dt loc st h)
    (ki : ∀ k, k < offs.size → ∃ (tgt : Nat) (off : Int), offs[k]? = some off ∧ (pc : Int) + off = (tgt : Int) ∧ Y g D h0 cl inj (F k) tgt loc st h) : Y g D h0 cl inj (if a.toInt < lo ∨ hi < a.toInt then o else F (a.toInt - lo).toNat) pc loc (.int a :: st) h := by
  refine Y.ite (fun q r e => ⟨(kd r e).1, X.tswOut dt q htd d (kd r e).2⟩) (fun q r e => ?_)
  have q1 : ¬ a.toInt < lo := fun z => q (Or.inl z)
  have q2 : ¬ hi < a.toInt := fun z => q (Or.inr z)
  obtain ⟨tgt, off, e1, e2, k9⟩ := ki (a.toInt - lo).toNat (by rw [hsz]; omega)
  exact ⟨(k9 r e).1, X.tswIn tgt q1 q2 e1 e2 d (k9 r e).2⟩
end YR
theorem gdm {w : Cond} (i : Nat) (h : lw_tbl[i]? = some w) (hg : goodWord w = true) : w ∈ lw_gd := List.mem_filter.mpr ⟨List.mem_of_getElem? h, hg⟩
theorem nwm {w : Cond} (i : Nat) (h : lw_tbl[i]? = some w) (hg : lw_isNw w = true) : w ∈ lw_nw := List.mem_filter.mpr ⟨List.mem_of_getElem? h, hg⟩
theorem gd_all (l : List Cond) (h : l.all (fun w => decide (w ∈ lw_tbl) && goodWord w) = true) : ∀ w ∈ l, w ∈ lw_gd := by
  intro w hw
  have := List.all_eq_true.mp h w hw
  simp only [Bool.and_eq_true, decide_eq_true_eq] at this
  exact List.mem_filter.mpr this
/-- System.arraycopy between int arrays -/
def cpI (h : xH) (a : Nat) (i : Int32) (b : Nat) (j n : Int32) : Option xH := match h[a]?, h[b]? with
  | some c, some c' => if c.1 = 100 ∧ c'.1 = 100 ∧ (¬ i < 0) ∧ (¬ j < 0) ∧ (¬ n < 0) ∧ i.toNatClampNeg + n.toNatClampNeg ≤ c.2.length ∧ j.toNatClampNeg + n.toNatClampNeg ≤ c'.2.length ∧ a ≠ b then
      some (h.set b (100, (List.range c'.2.length).map (fun q => if j.toNatClampNeg ≤ q ∧ q < j.toNatClampNeg + n.toNatClampNeg then .int (vI (c.2.getD (i.toNatClampNeg + (q - j.toNatClampNeg)) .null)) else c'.2.getD q .null)))
    else none
  | _, _ => none
/-- String.length, charAt of the claim's constants -/
def f_J0_length_8abf5 (a : Nat) (h : xH) : Option (Int32 × xH) := if 1000001 ≤ a ∧ a < 1000001 + sLen.length then some (Int32.ofNat (sLen.getD (a - 1000001) 0), h) else none
def f_J0_charAt_5068e (a : Nat) (i : Int32) (h : xH) : Option (Int32 × xH) := if (1000001 ≤ a ∧ a < 1000001 + sLen.length) ∧ ain i (sLen.getD (a - 1000001) 0) then some ((sByt.getD (a - 1000001) []).getD i.toNatClampNeg 0, h) else none
/-- the exception is a cell too: of class 11 or 12, of which nothing is known -/
def dX : List Value := [.null, .null, .null, .null, .null, .null]
def nwD (h : xH) (ci : Nat) : Option xH := if h.length + 1 < 1000000 then some (h ++ [(ci, dX)]) else none
def f_X9_demand (a0 : Nat) (p1 : Int32) (h : xH) : Option ((Unit ⊕ String) × xH) := if p1 = (0 : Int32) then (gI h 9 a0 11).bind fun v => (pI h 9 a0 11 (v + (1 : Int32))).bind fun h1 => (nwD h1 11).bind fun h2 => some (.inr "java/lang/IllegalArgumentException", h2) else some (.inl (), h)
def f_X9_demandPlace (a0 : Nat) (p1 : Int32) (h : xH) : Option ((Unit ⊕ String) × xH) := if p1 = (0 : Int32) then (gI h 9 a0 10).bind fun v => (pI h 9 a0 10 (v + (1 : Int32))).bind fun h1 => (nwD h1 12).bind fun h2 => some (.inr "java/util/NoSuchElementException", h2) else some (.inl (), h)
