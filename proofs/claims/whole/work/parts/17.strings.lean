/-! String.length, String.charAt on the claim's constants -/
section YR
variable {ρ : Type} {g : xG} {D : xD} {h0 : xH} {cl : Bool} {inj : ρ → xR} {o : Option ρ} {pc : Nat} {loc : xL} {st : List Value} {h : xH}
theorem Y.str_J0_length_8abf5 {own : String} {idx a : Nat} {K : Int32 × xH → Option ρ} (w : xLnk own idx yJ0_length_8abf5 ∨ xNst own idx yJ0_length_8abf5) (ho : (dy D).cls = own) (hlev : 4 ≤ dd D) (hrm : (st.map Value.category).sum ≤ 8) (d : decode (dc D) pc = .ok (.invokevirtual idx, 3)) (kk : ∀ r, Y g D h0 cl inj (K r) (pc + 3) loc (.int r.1 :: st) r.2) : Y g D h0 cl inj ((f_J0_length_8abf5 a h).bind K) pc loc (.ref a :: st) h := by
  sorry
theorem Y.str_J0_charAt_5068e {own : String} {idx a : Nat} {i : Int32} {K : Int32 × xH → Option ρ} (w : xLnk own idx yJ0_charAt_5068e ∨ xNst own idx yJ0_charAt_5068e) (ho : (dy D).cls = own) (hlev : 6 ≤ dd D) (hrm : (st.map Value.category).sum ≤ 8) (d : decode (dc D) pc = .ok (.invokevirtual idx, 3)) (kk : ∀ r, Y g D h0 cl inj (K r) (pc + 3) loc (.int r.1 :: st) r.2) : Y g D h0 cl inj ((f_J0_charAt_5068e a i h).bind K) pc loc (.int i :: .ref a :: st) h := by
  sorry
end YR
def tsf {β : Type} (F : Nat → β) (k : Nat) : β := F k
theorem Y.tswf {ρ : Type} {g : xG} {D : xD} {h0 : xH} {cl : Bool} {inj : ρ → xR} {o : Option ρ} {pc : Nat} {loc : xL} {st : List Value} {h : xH} {dflt lo hi : Int} {offs : Array Int} {len : Nat} {a : Int32} {F : Nat → Option ρ} {dt : Nat} (htd : (pc : Int) + dflt = (dt : Int)) (d : decode (dc D) pc = .ok (.tableswitch dflt lo hi offs, len)) (hsz : offs.size = (hi - lo + 1).toNat) (kd : Y g D h0 cl inj o dt loc st h)
    (ki : ∀ k, k < offs.size → ∃ (tgt : Nat) (off : Int), offs[k]? = some off ∧ (pc : Int) + off = (tgt : Int) ∧ Y g D h0 cl inj (F k) tgt loc st h) : Y g D h0 cl inj (if a.toInt < lo ∨ hi < a.toInt then o else tsf F (a.toInt - lo).toNat) pc loc (.int a :: st) h := Y.tsw htd d hsz kd ki
def nwAll (l : List Cond) : Bool := l.all (fun w => decide (w ∈ lw_tbl) && (goodWord w || lw_isNw w))
theorem nw_tabs {w : Cond} (h : lw_isNw w = true) : w.onTables = true := by
  cases w <;> first | rfl | cases h
theorem dm_hat {g : xG} {D : xD} {L : List Cond} {args : Array Value} {s : State} (h : nwAll L = true) (hts : ∀ w ∈ dw D, w.before args s = true) (hK : KK g s) : ∀ w ∈ L, w.before args s = true := by
  intro w hw
  have := List.all_eq_true.mp h w hw
  simp only [Bool.and_eq_true, decide_eq_true_eq, Bool.or_eq_true] at this
  rcases this.2 with q | q
  · exact hts w (gd_in (List.mem_filter.mpr ⟨this.1, q⟩))
  · exact va_Nw.use (nw_tabs q) (hK.1.2.1 w (List.mem_filter.mpr ⟨this.1, q⟩))
theorem X.throwSW {g : xG} {D : xD} {h0 : xH} {pc : Nat} {loc : xL} {st : List Value} {h : xH} {cl : Bool} {ex : Nat} {own cls text : String} {names : List String} {ik is ic j : Nat} (ho : (dy D).cls = own) (ht : dh D = [])
    (hcls : Bundle.fit cls = true) (hnames : ∀ n ∈ names, Bundle.fit n = true) (hk : Cond.classLink own ik cls ∈ lw_gd) (hini : Cond.initialized cls ∈ lw_gd) (hstr : (own, is, text, j) ∈ sCon) (hat : nwAll (vx_atS own ic cls names) = true) (hgood : ∀ w ∈ Cond.classLink own ik cls :: Cond.initialized cls :: vx_atS own ic cls names, vx_ot w = true)
    (d0 : decode (dc D) pc = .ok (.new ik, 3)) (d3 : decode (dc D) (pc + 3) = .ok (.dup, 1)) (d4 : decode (dc D) (pc + 4) = .ok (.ldc_w is, 3)) (d7 : decode (dc D) (pc + 7) = .ok (.invokespecial ic, 3)) (d10 : decode (dc D) (pc + 10) = .ok (.athrow, 1))
    (hf : names.length + 3 < dd D) (hl : (st.map Value.category).sum + (13 * (names.length + 1) + 43) ≤ 60 * dd D) : X g D h0 (.inr cls, h, ex + 1) pc loc st h cl ex := by
  intro p e R s m args below meth c H locs ls C hH hS hL h1 h2
  obtain ⟨hx, hb, hml, hown⟩ := C.1
  rw [ho] at hown
  have hK := C.2.2.2.1.1
  have hwd : ∀ w, w ∈ lw_gd → w.before args s = true := fun w hw => C.2.1 w (gd_in hw)
  have htab : ∀ z ∈ c.exceptionTable.toList, covers z (pc + 10) = false := by
    rw [C.2.2.1.2.2.1, ht]
    intro z hz
    cases hz
  have qf := C.2.2.2.2.1
  have ql := C.2.2.2.2.2.1
  have qc : nC h0 h (ex + 1) ≤ R.cells := C.2.2.2.2.2.2.1
  have qs : nS h0 h (ex + 1) ≤ R.slots := C.2.2.2.2.2.2.2
  have ec : nC h0 h ex + 1 = nC h0 h (ex + 1) := by unfold nC; omega
  have es : nS h0 h ex + 6 = nS h0 h (ex + 1) := by unfold nS; omega
  have hl2 : ((st.map (cv g)).map fun v => v.category).sum + (13 * (names.length + 1) + 43) ≤ R.locals := by
    have : ((st.map (cv g)).map fun v => v.category).sum = (st.map Value.category).sum := by
      rw [List.map_map]
      have : ((fun v => Value.category v) ∘ cv g) = Value.category := funext fun v => cv_cat g v
      rw [this]
    omega
  refine vx_throwSW (A := gA g) hx hb hK.2.2 hown hcls hnames (hwd _ hk) (hwd _ hini) (hK.1.2.2.1 _ hstr) (dm_hat hat C.2.1 hK) hgood hK.2.1.2.2.1 hK.2.1.2.2.2.1 hS (hL.1.1.trans hml.symm) d0 d3 d4 d7 d10 htab (by omega) hl2 (by rw [ec]; exact qc) (by rw [es]; exact qs) C.2.2.1.2.1 ?_ hS.2.2 (by show _ ≤ nC h0 h (ex + 1); omega) (by show _ ≤ nS h0 h (ex + 1); omega)
  intro t hvm hsz hkp
  refine ⟨⟨rfl, hH.1.kept (fun k9 x hx => hkp x.1 ((hH.1 k9 x hx).lt)), Nat.le_trans hH.2.1 hsz, hH.2.2⟩, Nat.le_trans hS.1 hsz, fun q q1 q2 => ?_⟩
  rw [hkp q (Nat.lt_of_lt_of_le q1 hS.1)]
  exact hS.2.1 q q1 q2
