/-! the two that throw -/
theorem y_X9_demand {g : xG} {h0 : xH} (a0 : Nat) (p1 : Int32) (h : xH) : Y g DX9_demand h0 false iVx (f_X9_demand a0 p1 h) 0 [some (.ref a0), some (.int p1)] [] h := by
  unfold f_X9_demand
  refine Y.op (pc' := 1) (fun _ => X.iloadn rfl dX9_demand_0) ?_
  refine Y.ifne 25 (by decide) dX9_demand_1 ?_ ?_
  · intro r e
    cases e
    exact ⟨⟨Nat.le_refl _, Nat.le_refl _, Nat.le_refl _⟩, X.vreturn rfl dX9_demand_25⟩
  · refine Y.op (pc' := 5) (fun _ => X.aloadn rfl dX9_demand_4) ?_
    refine Y.op (pc' := 6) (fun _ => X.dup rfl dX9_demand_5) ?_
    refine Y.getI fd_X9_76 rfl dX9_demand_6 (fun v => ?_)
    refine Y.op (pc' := 10) (fun _ => X.ic ki_1 dX9_demand_9) ?_
    refine Y.op (pc' := 11) (fun _ => X.iadd dX9_demand_10) ?_
    refine Y.putI fd_X9_76 rfl dX9_demand_11 (fun h1 => ?_)
    intro r e
    obtain ⟨h2, e1, e2⟩ := Option.bind_eq_some_iff.mp e
    unfold nwD at e1
    split at e1
    · rename_i hlt
      cases e1
      cases e2
      exact ⟨⟨by simp [iVx, xh], by show szs h1 ≤ szs (h1 ++ _); rw [szs_push]; omega, Nat.zero_le _⟩, X.throwNS (ci := 11) (ix := 7) (rx := prog_19_method_2_code) (by decide +kernel) (by decide +kernel) (by decide +kernel) (by decide +kernel) rfl (by decide) hlt (own := RX9) (names := ["java/lang/RuntimeException", "java/lang/Exception"]) (j := 0) (text := "not such an argument") rfl rfl (by decide +kernel) (by decide +kernel) (gdm 644 (by decide +kernel) rfl) (gdm 125 (by decide +kernel) rfl) (by decide +kernel) (by decide +kernel) (by decide +kernel) dX9_demand_14 dX9_demand_17 dX9_demand_18 dX9_demand_21 dX9_demand_24 (Nat.le_of_ble_eq_true rfl) (Nat.le_of_ble_eq_true rfl)⟩
    · cases e1
theorem m_X9_demand {g : xG} (a0 : Nat) (p1 : Int32) (h : xH) (r : (Unit ⊕ String) × xH) (e : f_X9_demand a0 p1 h = some r) : XM g DX9_demand [.ref a0, .int p1] h false (iVx r) := YM.of rfl rfl (Nat.le_of_ble_eq_true rfl) (y_X9_demand a0 p1 h) e
theorem y_X9_demandPlace {g : xG} {h0 : xH} (a0 : Nat) (p1 : Int32) (h : xH) : Y g DX9_demandPlace h0 false iVx (f_X9_demandPlace a0 p1 h) 0 [some (.ref a0), some (.int p1)] [] h := by
  unfold f_X9_demandPlace
  refine Y.op (pc' := 1) (fun _ => X.iloadn rfl dX9_demandPlace_0) ?_
  refine Y.ifne 25 (by decide) dX9_demandPlace_1 ?_ ?_
  · intro r e
    cases e
    exact ⟨⟨Nat.le_refl _, Nat.le_refl _, Nat.le_refl _⟩, X.vreturn rfl dX9_demandPlace_25⟩
  · refine Y.op (pc' := 5) (fun _ => X.aloadn rfl dX9_demandPlace_4) ?_
    refine Y.op (pc' := 6) (fun _ => X.dup rfl dX9_demandPlace_5) ?_
    refine Y.getI fd_X9_72 rfl dX9_demandPlace_6 (fun v => ?_)
    refine Y.op (pc' := 10) (fun _ => X.ic ki_1 dX9_demandPlace_9) ?_
    refine Y.op (pc' := 11) (fun _ => X.iadd dX9_demandPlace_10) ?_
    refine Y.putI fd_X9_72 rfl dX9_demandPlace_11 (fun h1 => ?_)
    intro r e
    obtain ⟨h2, e1, e2⟩ := Option.bind_eq_some_iff.mp e
    unfold nwD at e1
    split at e1
    · rename_i hlt
      cases e1
      cases e2
      exact ⟨⟨by simp [iVx, xh], by show szs h1 ≤ szs (h1 ++ _); rw [szs_push]; omega, Nat.zero_le _⟩, X.throwNS (ci := 12) (ix := 13) (rx := prog_30_method_4_code) (by decide +kernel) (by decide +kernel) (by decide +kernel) (by decide +kernel) rfl (by decide) hlt (own := RX9) (names := ["java/lang/RuntimeException", "java/lang/Exception"]) (j := 1) (text := "no such side, worker, task or place") rfl rfl (by decide +kernel) (by decide +kernel) (gdm 990 (by decide +kernel) rfl) (gdm 129 (by decide +kernel) rfl) (by decide +kernel) (by decide +kernel) (by decide +kernel) dX9_demandPlace_14 dX9_demandPlace_17 dX9_demandPlace_18 dX9_demandPlace_21 dX9_demandPlace_24 (Nat.le_of_ble_eq_true rfl) (Nat.le_of_ble_eq_true rfl)⟩
    · cases e1
theorem m_X9_demandPlace {g : xG} (a0 : Nat) (p1 : Int32) (h : xH) (r : (Unit ⊕ String) × xH) (e : f_X9_demandPlace a0 p1 h = some r) : XM g DX9_demandPlace [.ref a0, .int p1] h false (iVx r) := YM.of rfl rfl (Nat.le_of_ble_eq_true rfl) (y_X9_demandPlace a0 p1 h) e
