/-! String.length, String.charAt on the claim's constants -/
section YR
variable {ρ : Type} {g : xG} {D : xD} {h0 : xH} {cl : Bool} {inj : ρ → xR} {o : Option ρ} {pc : Nat} {loc : xL} {st : List Value} {h : xH}
theorem Y.str_J0_length_8abf5 {own : String} {idx a : Nat} {K : Int32 × xH → Option ρ} (w : xLnk own idx yJ0_length_8abf5 ∨ xNst own idx yJ0_length_8abf5) (ho : (dy D).cls = own) (hlev : 4 ≤ dd D) (hrm : (st.map Value.category).sum ≤ 8) (d : decode (dc D) pc = .ok (.invokevirtual idx, 3)) (kk : ∀ r, Y g D h0 cl inj (K r) (pc + 3) loc (.int r.1 :: st) r.2) : Y g D h0 cl inj ((f_J0_length_8abf5 a h).bind K) pc loc (.ref a :: st) h := by
  sorry
theorem Y.str_J0_charAt_5068e {own : String} {idx a : Nat} {i : Int32} {K : Int32 × xH → Option ρ} (w : xLnk own idx yJ0_charAt_5068e ∨ xNst own idx yJ0_charAt_5068e) (ho : (dy D).cls = own) (hlev : 6 ≤ dd D) (hrm : (st.map Value.category).sum ≤ 8) (d : decode (dc D) pc = .ok (.invokevirtual idx, 3)) (kk : ∀ r, Y g D h0 cl inj (K r) (pc + 3) loc (.int r.1 :: st) r.2) : Y g D h0 cl inj ((f_J0_charAt_5068e a i h).bind K) pc loc (.int i :: .ref a :: st) h := by
  sorry
end YR
theorem m_X9_demand {g : xG} (a0 : Nat) (p1 : Int32) (h : xH) (cl : Bool) (r : (Unit ⊕ String) × xH) (e : f_X9_demand a0 p1 h = some r) : XM g DX9_demand [.ref a0, .int p1] h cl (iVx r) := by
  sorry
theorem m_X9_demandPlace {g : xG} (a0 : Nat) (p1 : Int32) (h : xH) (cl : Bool) (r : (Unit ⊕ String) × xH) (e : f_X9_demandPlace a0 p1 h = some r) : XM g DX9_demandPlace [.ref a0, .int p1] h cl (iVx r) := by
  sorry
def tsf {β : Type} (F : Nat → β) (k : Nat) : β := F k
theorem Y.tswf {ρ : Type} {g : xG} {D : xD} {h0 : xH} {cl : Bool} {inj : ρ → xR} {o : Option ρ} {pc : Nat} {loc : xL} {st : List Value} {h : xH} {dflt lo hi : Int} {offs : Array Int} {len : Nat} {a : Int32} {F : Nat → Option ρ} {dt : Nat} (htd : (pc : Int) + dflt = (dt : Int)) (d : decode (dc D) pc = .ok (.tableswitch dflt lo hi offs, len)) (hsz : offs.size = (hi - lo + 1).toNat) (kd : Y g D h0 cl inj o dt loc st h)
    (ki : ∀ k, k < offs.size → ∃ (tgt : Nat) (off : Int), offs[k]? = some off ∧ (pc : Int) + off = (tgt : Int) ∧ Y g D h0 cl inj (F k) tgt loc st h) : Y g D h0 cl inj (if a.toInt < lo ∨ hi < a.toInt then o else tsf F (a.toInt - lo).toNat) pc loc (.int a :: st) h := Y.tsw htd d hsz kd ki
