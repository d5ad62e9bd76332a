/-! the law's wrappers (by program) -/
def wc_L_text (E : String) : Option Int32 := if E = IAE then some 1 else none
def f_L_text (a0 : Nat) (p1 : Int32) (o : Nat) (h : xH) : Option (Int32 × xH × Nat) := (vc h 9 a0 (f_X9_text a0 p1 h)).bind (wrp o wc_L_text)
theorem wh_L_text (E : String) (c : Int32) (e : wc_L_text E = some c) : xHan DL_text 4 E c := by
  unfold wc_L_text at e
  split at e
  · rename_i q; subst q; cases e; exact ⟨[], [], 0, 9, 12, 13, 3, 1, 1, IAE, rfl, (fun z hz => nomatch hz), by decide, by decide, wx_13, wt_IAE, Nat.le_of_ble_eq_true rfl, Or.inl ⟨rfl, 3, rfl, dL_text_12⟩, dL_text_13, by decide, dL_text_14⟩
  · cases e
theorem y_L_text {g : xG} {h0 : xH} {cl : Bool} (a0 : Nat) (p1 : Int32) (o : Nat) (h : xH) : Y g DL_text h0 cl iW (f_L_text a0 p1 o h) 0 [some (.ref a0), some (.int p1), some (.ref o), none] [] h := by
  unfold f_L_text
  refine Y.op (pc' := 1) (fun _ => X.aloadn rfl dL_text_0) ?_
  refine Y.op (pc' := 2) (fun _ => X.ic (v := 0) (by decide) dL_text_1) ?_
  refine Y.op (pc' := 3) (fun _ => X.aloadn rfl dL_text_2) ?_
  refine Y.op (pc' := 4) (fun _ => X.iloadn rfl dL_text_3) ?_
  exact Y.callW (As := [.int p1]) lk_L_7 rfl cal_X9_text vir_X9_text (Nat.le_of_ble_eq_true rfl) (Nat.le_of_ble_eq_true rfl) rfl rfl rfl rfl dL_text_4 dL_text_7 dL_text_8 dL_text_9 (by decide) dL_text_15 dL_text_16 wh_L_text (fun _ e => m_X9_text a0 p1 h _ _ e)
theorem m_L_text {g : xG} (a0 : Nat) (p1 : Int32) (o : Nat) (h : xH) (cl : Bool) (r : Int32 × xH × Nat) (e : f_L_text a0 p1 o h = some r) : XM g DL_text [.ref a0, .int p1, .ref o] h cl (iW r) := by
  have q := y_L_text (g := g) (h0 := h) (cl := cl) a0 p1 o h r e
  exact XM.ofH rfl rfl (Nat.le_of_ble_eq_true rfl) q.1.1 q.1.2.1 q.2
def wc_L_told (E : String) : Option Int32 := if E = IAE then some 1 else none
def f_L_told (a0 : Nat) (p1 : Int32) (o : Nat) (h : xH) : Option (Int32 × xH × Nat) := (vc h 9 a0 (f_X9_told a0 p1 h)).bind (wrp o wc_L_told)
theorem wh_L_told (E : String) (c : Int32) (e : wc_L_told E = some c) : xHan DL_told 4 E c := by
  unfold wc_L_told at e
  split at e
  · rename_i q; subst q; cases e; exact ⟨[], [], 0, 9, 12, 13, 3, 1, 1, IAE, rfl, (fun z hz => nomatch hz), by decide, by decide, wx_13, wt_IAE, Nat.le_of_ble_eq_true rfl, Or.inl ⟨rfl, 3, rfl, dL_told_12⟩, dL_told_13, by decide, dL_told_14⟩
  · cases e
theorem y_L_told {g : xG} {h0 : xH} {cl : Bool} (a0 : Nat) (p1 : Int32) (o : Nat) (h : xH) : Y g DL_told h0 cl iW (f_L_told a0 p1 o h) 0 [some (.ref a0), some (.int p1), some (.ref o), none] [] h := by
  unfold f_L_told
  refine Y.op (pc' := 1) (fun _ => X.aloadn rfl dL_told_0) ?_
  refine Y.op (pc' := 2) (fun _ => X.ic (v := 0) (by decide) dL_told_1) ?_
  refine Y.op (pc' := 3) (fun _ => X.aloadn rfl dL_told_2) ?_
  refine Y.op (pc' := 4) (fun _ => X.iloadn rfl dL_told_3) ?_
  exact Y.callW (As := [.int p1]) lk_L_15 rfl cal_X9_told vir_X9_told (Nat.le_of_ble_eq_true rfl) (Nat.le_of_ble_eq_true rfl) rfl rfl rfl rfl dL_told_4 dL_told_7 dL_told_8 dL_told_9 (by decide) dL_told_15 dL_told_16 wh_L_told (fun _ e => m_X9_told a0 p1 h _ _ e)
theorem m_L_told {g : xG} (a0 : Nat) (p1 : Int32) (o : Nat) (h : xH) (cl : Bool) (r : Int32 × xH × Nat) (e : f_L_told a0 p1 o h = some r) : XM g DL_told [.ref a0, .int p1, .ref o] h cl (iW r) := by
  have q := y_L_told (g := g) (h0 := h) (cl := cl) a0 p1 o h r e
  exact XM.ofH rfl rfl (Nat.le_of_ble_eq_true rfl) q.1.1 q.1.2.1 q.2
def wc_L_partner (E : String) : Option Int32 := if E = NSE then some 1 else none
def f_L_partner (a0 : Nat) (p1 : Int32) (p2 : Int32) (o : Nat) (h : xH) : Option (Int32 × xH × Nat) := (vc h 9 a0 (f_X9_partner a0 p1 p2 h)).bind (wrp o wc_L_partner)
theorem wh_L_partner (E : String) (c : Int32) (e : wc_L_partner E = some c) : xHan DL_partner 5 E c := by
  unfold wc_L_partner at e
  split at e
  · rename_i q; subst q; cases e; exact ⟨[], [], 0, 10, 13, 22, 4, 2, 1, NSE, rfl, (fun z hz => nomatch hz), by decide, by decide, wx_22, wt_NSE, Nat.le_of_ble_eq_true rfl, Or.inr ⟨rfl, dL_partner_13⟩, dL_partner_15, by decide, dL_partner_16⟩
  · cases e
theorem y_L_partner {g : xG} {h0 : xH} {cl : Bool} (a0 : Nat) (p1 : Int32) (p2 : Int32) (o : Nat) (h : xH) : Y g DL_partner h0 cl iW (f_L_partner a0 p1 p2 o h) 0 [some (.ref a0), some (.int p1), some (.int p2), some (.ref o), none] [] h := by
  unfold f_L_partner
  refine Y.op (pc' := 1) (fun _ => X.aloadn rfl dL_partner_0) ?_
  refine Y.op (pc' := 2) (fun _ => X.ic (v := 0) (by decide) dL_partner_1) ?_
  refine Y.op (pc' := 3) (fun _ => X.aloadn rfl dL_partner_2) ?_
  refine Y.op (pc' := 4) (fun _ => X.iloadn rfl dL_partner_3) ?_
  refine Y.op (pc' := 5) (fun _ => X.iloadn rfl dL_partner_4) ?_
  exact Y.callW (As := [.int p1, .int p2]) lk_L_18 rfl cal_X9_partner vir_X9_partner (Nat.le_of_ble_eq_true rfl) (Nat.le_of_ble_eq_true rfl) rfl rfl rfl rfl dL_partner_5 dL_partner_8 dL_partner_9 dL_partner_10 (by decide) dL_partner_17 dL_partner_18 wh_L_partner (fun _ e => m_X9_partner a0 p1 p2 h _ _ e)
theorem m_L_partner {g : xG} (a0 : Nat) (p1 : Int32) (p2 : Int32) (o : Nat) (h : xH) (cl : Bool) (r : Int32 × xH × Nat) (e : f_L_partner a0 p1 p2 o h = some r) : XM g DL_partner [.ref a0, .int p1, .int p2, .ref o] h cl (iW r) := by
  have q := y_L_partner (g := g) (h0 := h) (cl := cl) a0 p1 p2 o h r e
  exact XM.ofH rfl rfl (Nat.le_of_ble_eq_true rfl) q.1.1 q.1.2.1 q.2
def wc_L_cost (E : String) : Option Int32 := if E = NSE then some 1 else none
def f_L_cost (a0 : Nat) (p1 : Int32) (p2 : Int32) (o : Nat) (h : xH) : Option (Int32 × xH × Nat) := (vc h 9 a0 (f_X9_cost a0 p1 p2 h)).bind (wrp o wc_L_cost)
theorem wh_L_cost (E : String) (c : Int32) (e : wc_L_cost E = some c) : xHan DL_cost 5 E c := by
  unfold wc_L_cost at e
  split at e
  · rename_i q; subst q; cases e; exact ⟨[], [], 0, 10, 13, 22, 4, 2, 1, NSE, rfl, (fun z hz => nomatch hz), by decide, by decide, wx_22, wt_NSE, Nat.le_of_ble_eq_true rfl, Or.inr ⟨rfl, dL_cost_13⟩, dL_cost_15, by decide, dL_cost_16⟩
  · cases e
theorem y_L_cost {g : xG} {h0 : xH} {cl : Bool} (a0 : Nat) (p1 : Int32) (p2 : Int32) (o : Nat) (h : xH) : Y g DL_cost h0 cl iW (f_L_cost a0 p1 p2 o h) 0 [some (.ref a0), some (.int p1), some (.int p2), some (.ref o), none] [] h := by
  unfold f_L_cost
  refine Y.op (pc' := 1) (fun _ => X.aloadn rfl dL_cost_0) ?_
  refine Y.op (pc' := 2) (fun _ => X.ic (v := 0) (by decide) dL_cost_1) ?_
  refine Y.op (pc' := 3) (fun _ => X.aloadn rfl dL_cost_2) ?_
  refine Y.op (pc' := 4) (fun _ => X.iloadn rfl dL_cost_3) ?_
  refine Y.op (pc' := 5) (fun _ => X.iloadn rfl dL_cost_4) ?_
  exact Y.callW (As := [.int p1, .int p2]) lk_L_24 rfl cal_X9_cost vir_X9_cost (Nat.le_of_ble_eq_true rfl) (Nat.le_of_ble_eq_true rfl) rfl rfl rfl rfl dL_cost_5 dL_cost_8 dL_cost_9 dL_cost_10 (by decide) dL_cost_17 dL_cost_18 wh_L_cost (fun _ e => m_X9_cost a0 p1 p2 h _ _ e)
theorem m_L_cost {g : xG} (a0 : Nat) (p1 : Int32) (p2 : Int32) (o : Nat) (h : xH) (cl : Bool) (r : Int32 × xH × Nat) (e : f_L_cost a0 p1 p2 o h = some r) : XM g DL_cost [.ref a0, .int p1, .int p2, .ref o] h cl (iW r) := by
  have q := y_L_cost (g := g) (h0 := h) (cl := cl) a0 p1 p2 o h r e
  exact XM.ofH rfl rfl (Nat.le_of_ble_eq_true rfl) q.1.1 q.1.2.1 q.2
def wc_L_fits (E : String) : Option Int32 := if E = NSE then some 1 else none
def f_L_fits (a0 : Nat) (p1 : Int32) (p2 : Int32) (o : Nat) (h : xH) : Option (Int32 × xH × Nat) := (vc h 9 a0 (f_X9_fits a0 p1 p2 h)).bind (wrp o wc_L_fits)
theorem wh_L_fits (E : String) (c : Int32) (e : wc_L_fits E = some c) : xHan DL_fits 5 E c := by
  unfold wc_L_fits at e
  split at e
  · rename_i q; subst q; cases e; exact ⟨[], [], 0, 10, 13, 22, 4, 2, 1, NSE, rfl, (fun z hz => nomatch hz), by decide, by decide, wx_22, wt_NSE, Nat.le_of_ble_eq_true rfl, Or.inr ⟨rfl, dL_fits_13⟩, dL_fits_15, by decide, dL_fits_16⟩
  · cases e
theorem y_L_fits {g : xG} {h0 : xH} {cl : Bool} (a0 : Nat) (p1 : Int32) (p2 : Int32) (o : Nat) (h : xH) : Y g DL_fits h0 cl iW (f_L_fits a0 p1 p2 o h) 0 [some (.ref a0), some (.int p1), some (.int p2), some (.ref o), none] [] h := by
  unfold f_L_fits
  refine Y.op (pc' := 1) (fun _ => X.aloadn rfl dL_fits_0) ?_
  refine Y.op (pc' := 2) (fun _ => X.ic (v := 0) (by decide) dL_fits_1) ?_
  refine Y.op (pc' := 3) (fun _ => X.aloadn rfl dL_fits_2) ?_
  refine Y.op (pc' := 4) (fun _ => X.iloadn rfl dL_fits_3) ?_
  refine Y.op (pc' := 5) (fun _ => X.iloadn rfl dL_fits_4) ?_
  exact Y.callW (As := [.int p1, .int p2]) lk_L_27 rfl cal_X9_fits vir_X9_fits (Nat.le_of_ble_eq_true rfl) (Nat.le_of_ble_eq_true rfl) rfl rfl rfl rfl dL_fits_5 dL_fits_8 dL_fits_9 dL_fits_10 (by decide) dL_fits_17 dL_fits_18 wh_L_fits (fun _ e => m_X9_fits a0 p1 p2 h _ _ e)
theorem m_L_fits {g : xG} (a0 : Nat) (p1 : Int32) (p2 : Int32) (o : Nat) (h : xH) (cl : Bool) (r : Int32 × xH × Nat) (e : f_L_fits a0 p1 p2 o h = some r) : XM g DL_fits [.ref a0, .int p1, .int p2, .ref o] h cl (iW r) := by
  have q := y_L_fits (g := g) (h0 := h) (cl := cl) a0 p1 p2 o h r e
  exact XM.ofH rfl rfl (Nat.le_of_ble_eq_true rfl) q.1.1 q.1.2.1 q.2
def wc_L_wayAt (E : String) : Option Int32 := if E = NSE then some 1 else none
def f_L_wayAt (a0 : Nat) (p1 : Int32) (o : Nat) (h : xH) : Option (Int32 × xH × Nat) := (vc h 9 a0 (f_X9_wayAt a0 p1 h)).bind (wrp o wc_L_wayAt)
theorem wh_L_wayAt (E : String) (c : Int32) (e : wc_L_wayAt E = some c) : xHan DL_wayAt 4 E c := by
  unfold wc_L_wayAt at e
  split at e
  · rename_i q; subst q; cases e; exact ⟨[], [], 0, 9, 12, 22, 3, 1, 1, NSE, rfl, (fun z hz => nomatch hz), by decide, by decide, wx_22, wt_NSE, Nat.le_of_ble_eq_true rfl, Or.inl ⟨rfl, 3, rfl, dL_wayAt_12⟩, dL_wayAt_13, by decide, dL_wayAt_14⟩
  · cases e
theorem y_L_wayAt {g : xG} {h0 : xH} {cl : Bool} (a0 : Nat) (p1 : Int32) (o : Nat) (h : xH) : Y g DL_wayAt h0 cl iW (f_L_wayAt a0 p1 o h) 0 [some (.ref a0), some (.int p1), some (.ref o), none] [] h := by
  unfold f_L_wayAt
  refine Y.op (pc' := 1) (fun _ => X.aloadn rfl dL_wayAt_0) ?_
  refine Y.op (pc' := 2) (fun _ => X.ic (v := 0) (by decide) dL_wayAt_1) ?_
  refine Y.op (pc' := 3) (fun _ => X.aloadn rfl dL_wayAt_2) ?_
  refine Y.op (pc' := 4) (fun _ => X.iloadn rfl dL_wayAt_3) ?_
  exact Y.callW (As := [.int p1]) lk_L_30 rfl cal_X9_wayAt vir_X9_wayAt (Nat.le_of_ble_eq_true rfl) (Nat.le_of_ble_eq_true rfl) rfl rfl rfl rfl dL_wayAt_4 dL_wayAt_7 dL_wayAt_8 dL_wayAt_9 (by decide) dL_wayAt_15 dL_wayAt_16 wh_L_wayAt (fun _ e => m_X9_wayAt a0 p1 h _ _ e)
theorem m_L_wayAt {g : xG} (a0 : Nat) (p1 : Int32) (o : Nat) (h : xH) (cl : Bool) (r : Int32 × xH × Nat) (e : f_L_wayAt a0 p1 o h = some r) : XM g DL_wayAt [.ref a0, .int p1, .ref o] h cl (iW r) := by
  have q := y_L_wayAt (g := g) (h0 := h) (cl := cl) a0 p1 o h r e
  exact XM.ofH rfl rfl (Nat.le_of_ble_eq_true rfl) q.1.1 q.1.2.1 q.2
def wc_L_wayFrom (E : String) : Option Int32 := if E = NSE then some 1 else if E = IAE then some 2 else none
def f_L_wayFrom (a0 : Nat) (p1 : Int32) (p2 : Int32) (o : Nat) (h : xH) : Option (Int32 × xH × Nat) := (vc h 9 a0 (f_X9_wayFrom a0 p1 p2 h)).bind (wrp o wc_L_wayFrom)
theorem wh_L_wayFrom (E : String) (c : Int32) (e : wc_L_wayFrom E = some c) : xHan DL_wayFrom 5 E c := by
  unfold wc_L_wayFrom at e
  split at e
  · rename_i q; subst q; cases e; exact ⟨[], [(0, 10, 17, 13)], 0, 10, 13, 22, 4, 2, 1, NSE, rfl, (fun z hz => nomatch hz), by decide, by decide, wx_22, wt_NSE, Nat.le_of_ble_eq_true rfl, Or.inr ⟨rfl, dL_wayFrom_13⟩, dL_wayFrom_15, by decide, dL_wayFrom_16⟩
  · split at e
    · rename_i q; subst q; cases e; exact ⟨[(0, 10, 13, 22)], [], 0, 10, 17, 13, 4, 2, 2, IAE, rfl, (fun z hz => by rw [List.mem_singleton.mp hz]; exact ⟨by decide, wx_22, rfl⟩), by decide, by decide, wx_13, wt_IAE, Nat.le_of_ble_eq_true rfl, Or.inr ⟨rfl, dL_wayFrom_17⟩, dL_wayFrom_19, by decide, dL_wayFrom_20⟩
    · cases e
theorem y_L_wayFrom {g : xG} {h0 : xH} {cl : Bool} (a0 : Nat) (p1 : Int32) (p2 : Int32) (o : Nat) (h : xH) : Y g DL_wayFrom h0 cl iW (f_L_wayFrom a0 p1 p2 o h) 0 [some (.ref a0), some (.int p1), some (.int p2), some (.ref o), none] [] h := by
  unfold f_L_wayFrom
  refine Y.op (pc' := 1) (fun _ => X.aloadn rfl dL_wayFrom_0) ?_
  refine Y.op (pc' := 2) (fun _ => X.ic (v := 0) (by decide) dL_wayFrom_1) ?_
  refine Y.op (pc' := 3) (fun _ => X.aloadn rfl dL_wayFrom_2) ?_
  refine Y.op (pc' := 4) (fun _ => X.iloadn rfl dL_wayFrom_3) ?_
  refine Y.op (pc' := 5) (fun _ => X.iloadn rfl dL_wayFrom_4) ?_
  exact Y.callW (As := [.int p1, .int p2]) lk_L_33 rfl cal_X9_wayFrom vir_X9_wayFrom (Nat.le_of_ble_eq_true rfl) (Nat.le_of_ble_eq_true rfl) rfl rfl rfl rfl dL_wayFrom_5 dL_wayFrom_8 dL_wayFrom_9 dL_wayFrom_10 (by decide) dL_wayFrom_21 dL_wayFrom_22 wh_L_wayFrom (fun _ e => m_X9_wayFrom a0 p1 p2 h _ _ e)
theorem m_L_wayFrom {g : xG} (a0 : Nat) (p1 : Int32) (p2 : Int32) (o : Nat) (h : xH) (cl : Bool) (r : Int32 × xH × Nat) (e : f_L_wayFrom a0 p1 p2 o h = some r) : XM g DL_wayFrom [.ref a0, .int p1, .int p2, .ref o] h cl (iW r) := by
  have q := y_L_wayFrom (g := g) (h0 := h) (cl := cl) a0 p1 p2 o h r e
  exact XM.ofH rfl rfl (Nat.le_of_ble_eq_true rfl) q.1.1 q.1.2.1 q.2
def wc_L_phases (E : String) : Option Int32 := if E = IAE then some 1 else none
def f_L_phases (a0 : Nat) (p1 : Int32) (o : Nat) (h : xH) : Option (Int32 × xH × Nat) := (vc h 9 a0 (f_X9_phases a0 p1 h)).bind (wrp o wc_L_phases)
theorem wh_L_phases (E : String) (c : Int32) (e : wc_L_phases E = some c) : xHan DL_phases 4 E c := by
  unfold wc_L_phases at e
  split at e
  · rename_i q; subst q; cases e; exact ⟨[], [], 0, 9, 12, 13, 3, 1, 1, IAE, rfl, (fun z hz => nomatch hz), by decide, by decide, wx_13, wt_IAE, Nat.le_of_ble_eq_true rfl, Or.inl ⟨rfl, 3, rfl, dL_phases_12⟩, dL_phases_13, by decide, dL_phases_14⟩
  · cases e
theorem y_L_phases {g : xG} {h0 : xH} {cl : Bool} (a0 : Nat) (p1 : Int32) (o : Nat) (h : xH) : Y g DL_phases h0 cl iW (f_L_phases a0 p1 o h) 0 [some (.ref a0), some (.int p1), some (.ref o), none] [] h := by
  unfold f_L_phases
  refine Y.op (pc' := 1) (fun _ => X.aloadn rfl dL_phases_0) ?_
  refine Y.op (pc' := 2) (fun _ => X.ic (v := 0) (by decide) dL_phases_1) ?_
  refine Y.op (pc' := 3) (fun _ => X.aloadn rfl dL_phases_2) ?_
  refine Y.op (pc' := 4) (fun _ => X.iloadn rfl dL_phases_3) ?_
  exact Y.callW (As := [.int p1]) lk_L_36 rfl cal_X9_phases vir_X9_phases (Nat.le_of_ble_eq_true rfl) (Nat.le_of_ble_eq_true rfl) rfl rfl rfl rfl dL_phases_4 dL_phases_7 dL_phases_8 dL_phases_9 (by decide) dL_phases_15 dL_phases_16 wh_L_phases (fun _ e => m_X9_phases a0 p1 h _ _ e)
theorem m_L_phases {g : xG} (a0 : Nat) (p1 : Int32) (o : Nat) (h : xH) (cl : Bool) (r : Int32 × xH × Nat) (e : f_L_phases a0 p1 o h = some r) : XM g DL_phases [.ref a0, .int p1, .ref o] h cl (iW r) := by
  have q := y_L_phases (g := g) (h0 := h) (cl := cl) a0 p1 o h r e
  exact XM.ofH rfl rfl (Nat.le_of_ble_eq_true rfl) q.1.1 q.1.2.1 q.2
def wc_L_phased (E : String) : Option Int32 := if E = NSE then some 1 else none
def f_L_phased (a0 : Nat) (p1 : Int32) (o : Nat) (h : xH) : Option (Int32 × xH × Nat) := (vc h 9 a0 (f_X9_phased a0 p1 h)).bind (wrp o wc_L_phased)
theorem wh_L_phased (E : String) (c : Int32) (e : wc_L_phased E = some c) : xHan DL_phased 4 E c := by
  unfold wc_L_phased at e
  split at e
  · rename_i q; subst q; cases e; exact ⟨[], [], 0, 9, 12, 22, 3, 1, 1, NSE, rfl, (fun z hz => nomatch hz), by decide, by decide, wx_22, wt_NSE, Nat.le_of_ble_eq_true rfl, Or.inl ⟨rfl, 3, rfl, dL_phased_12⟩, dL_phased_13, by decide, dL_phased_14⟩
  · cases e
theorem y_L_phased {g : xG} {h0 : xH} {cl : Bool} (a0 : Nat) (p1 : Int32) (o : Nat) (h : xH) : Y g DL_phased h0 cl iW (f_L_phased a0 p1 o h) 0 [some (.ref a0), some (.int p1), some (.ref o), none] [] h := by
  unfold f_L_phased
  refine Y.op (pc' := 1) (fun _ => X.aloadn rfl dL_phased_0) ?_
  refine Y.op (pc' := 2) (fun _ => X.ic (v := 0) (by decide) dL_phased_1) ?_
  refine Y.op (pc' := 3) (fun _ => X.aloadn rfl dL_phased_2) ?_
  refine Y.op (pc' := 4) (fun _ => X.iloadn rfl dL_phased_3) ?_
  exact Y.callW (As := [.int p1]) lk_L_39 rfl cal_X9_phased vir_X9_phased (Nat.le_of_ble_eq_true rfl) (Nat.le_of_ble_eq_true rfl) rfl rfl rfl rfl dL_phased_4 dL_phased_7 dL_phased_8 dL_phased_9 (by decide) dL_phased_15 dL_phased_16 wh_L_phased (fun _ e => m_X9_phased a0 p1 h _ _ e)
theorem m_L_phased {g : xG} (a0 : Nat) (p1 : Int32) (o : Nat) (h : xH) (cl : Bool) (r : Int32 × xH × Nat) (e : f_L_phased a0 p1 o h = some r) : XM g DL_phased [.ref a0, .int p1, .ref o] h cl (iW r) := by
  have q := y_L_phased (g := g) (h0 := h) (cl := cl) a0 p1 o h r e
  exact XM.ofH rfl rfl (Nat.le_of_ble_eq_true rfl) q.1.1 q.1.2.1 q.2
def wc_L_reached (E : String) : Option Int32 := if E = NSE then some 1 else none
def f_L_reached (a0 : Nat) (p1 : Int32) (o : Nat) (h : xH) : Option (Int32 × xH × Nat) := (vc h 9 a0 (f_X9_reached a0 p1 h)).bind (wrp o wc_L_reached)
theorem wh_L_reached (E : String) (c : Int32) (e : wc_L_reached E = some c) : xHan DL_reached 4 E c := by
  unfold wc_L_reached at e
  split at e
  · rename_i q; subst q; cases e; exact ⟨[], [], 0, 9, 12, 22, 3, 1, 1, NSE, rfl, (fun z hz => nomatch hz), by decide, by decide, wx_22, wt_NSE, Nat.le_of_ble_eq_true rfl, Or.inl ⟨rfl, 3, rfl, dL_reached_12⟩, dL_reached_13, by decide, dL_reached_14⟩
  · cases e
theorem y_L_reached {g : xG} {h0 : xH} {cl : Bool} (a0 : Nat) (p1 : Int32) (o : Nat) (h : xH) : Y g DL_reached h0 cl iW (f_L_reached a0 p1 o h) 0 [some (.ref a0), some (.int p1), some (.ref o), none] [] h := by
  unfold f_L_reached
  refine Y.op (pc' := 1) (fun _ => X.aloadn rfl dL_reached_0) ?_
  refine Y.op (pc' := 2) (fun _ => X.ic (v := 0) (by decide) dL_reached_1) ?_
  refine Y.op (pc' := 3) (fun _ => X.aloadn rfl dL_reached_2) ?_
  refine Y.op (pc' := 4) (fun _ => X.iloadn rfl dL_reached_3) ?_
  exact Y.callW (As := [.int p1]) lk_L_42 rfl cal_X9_reached vir_X9_reached (Nat.le_of_ble_eq_true rfl) (Nat.le_of_ble_eq_true rfl) rfl rfl rfl rfl dL_reached_4 dL_reached_7 dL_reached_8 dL_reached_9 (by decide) dL_reached_15 dL_reached_16 wh_L_reached (fun _ e => m_X9_reached a0 p1 h _ _ e)
theorem m_L_reached {g : xG} (a0 : Nat) (p1 : Int32) (o : Nat) (h : xH) (cl : Bool) (r : Int32 × xH × Nat) (e : f_L_reached a0 p1 o h = some r) : XM g DL_reached [.ref a0, .int p1, .ref o] h cl (iW r) := by
  have q := y_L_reached (g := g) (h0 := h) (cl := cl) a0 p1 o h r e
  exact XM.ofH rfl rfl (Nat.le_of_ble_eq_true rfl) q.1.1 q.1.2.1 q.2
def wc_L_cover (E : String) : Option Int32 := if E = NSE then some 1 else none
def f_L_cover (a0 : Nat) (p1 : Int32) (o : Nat) (h : xH) : Option (Int32 × xH × Nat) := (vc h 9 a0 (f_X9_cover a0 p1 h)).bind (wrp o wc_L_cover)
theorem wh_L_cover (E : String) (c : Int32) (e : wc_L_cover E = some c) : xHan DL_cover 4 E c := by
  unfold wc_L_cover at e
  split at e
  · rename_i q; subst q; cases e; exact ⟨[], [], 0, 9, 12, 22, 3, 1, 1, NSE, rfl, (fun z hz => nomatch hz), by decide, by decide, wx_22, wt_NSE, Nat.le_of_ble_eq_true rfl, Or.inl ⟨rfl, 3, rfl, dL_cover_12⟩, dL_cover_13, by decide, dL_cover_14⟩
  · cases e
theorem y_L_cover {g : xG} {h0 : xH} {cl : Bool} (a0 : Nat) (p1 : Int32) (o : Nat) (h : xH) : Y g DL_cover h0 cl iW (f_L_cover a0 p1 o h) 0 [some (.ref a0), some (.int p1), some (.ref o), none] [] h := by
  unfold f_L_cover
  refine Y.op (pc' := 1) (fun _ => X.aloadn rfl dL_cover_0) ?_
  refine Y.op (pc' := 2) (fun _ => X.ic (v := 0) (by decide) dL_cover_1) ?_
  refine Y.op (pc' := 3) (fun _ => X.aloadn rfl dL_cover_2) ?_
  refine Y.op (pc' := 4) (fun _ => X.iloadn rfl dL_cover_3) ?_
  exact Y.callW (As := [.int p1]) lk_L_45 rfl cal_X9_cover vir_X9_cover (Nat.le_of_ble_eq_true rfl) (Nat.le_of_ble_eq_true rfl) rfl rfl rfl rfl dL_cover_4 dL_cover_7 dL_cover_8 dL_cover_9 (by decide) dL_cover_15 dL_cover_16 wh_L_cover (fun _ e => m_X9_cover a0 p1 h _ _ e)
theorem m_L_cover {g : xG} (a0 : Nat) (p1 : Int32) (o : Nat) (h : xH) (cl : Bool) (r : Int32 × xH × Nat) (e : f_L_cover a0 p1 o h = some r) : XM g DL_cover [.ref a0, .int p1, .ref o] h cl (iW r) := by
  have q := y_L_cover (g := g) (h0 := h) (cl := cl) a0 p1 o h r e
  exact XM.ofH rfl rfl (Nat.le_of_ble_eq_true rfl) q.1.1 q.1.2.1 q.2
def wc_L_of (E : String) : Option Int32 := if E = NSE then some 1 else if E = IAE then some 2 else none
def f_L_of (a0 : Nat) (p1 : Int32) (p2 : Int32) (p3 : Int32) (o : Nat) (h : xH) : Option (Int32 × xH × Nat) := (vc h 9 a0 (f_X9_of a0 p1 p2 p3 h)).bind (wrp o wc_L_of)
theorem wh_L_of (E : String) (c : Int32) (e : wc_L_of E = some c) : xHan DL_of 7 E c := by
  unfold wc_L_of at e
  split at e
  · rename_i q; subst q; cases e; exact ⟨[], [(0, 12, 19, 13)], 0, 12, 15, 22, 5, 2, 1, NSE, rfl, (fun z hz => nomatch hz), by decide, by decide, wx_22, wt_NSE, Nat.le_of_ble_eq_true rfl, Or.inr ⟨rfl, dL_of_15⟩, dL_of_17, by decide, dL_of_18⟩
  · split at e
    · rename_i q; subst q; cases e; exact ⟨[(0, 12, 15, 22)], [], 0, 12, 19, 13, 5, 2, 2, IAE, rfl, (fun z hz => by rw [List.mem_singleton.mp hz]; exact ⟨by decide, wx_22, rfl⟩), by decide, by decide, wx_13, wt_IAE, Nat.le_of_ble_eq_true rfl, Or.inr ⟨rfl, dL_of_19⟩, dL_of_21, by decide, dL_of_22⟩
    · cases e
theorem y_L_of {g : xG} {h0 : xH} {cl : Bool} (a0 : Nat) (p1 : Int32) (p2 : Int32) (p3 : Int32) (o : Nat) (h : xH) : Y g DL_of h0 cl iW (f_L_of a0 p1 p2 p3 o h) 0 [some (.ref a0), some (.int p1), some (.int p2), some (.int p3), some (.ref o), none] [] h := by
  unfold f_L_of
  refine Y.op (pc' := 2) (fun _ => X.aload rfl dL_of_0) ?_
  refine Y.op (pc' := 3) (fun _ => X.ic (v := 0) (by decide) dL_of_2) ?_
  refine Y.op (pc' := 4) (fun _ => X.aloadn rfl dL_of_3) ?_
  refine Y.op (pc' := 5) (fun _ => X.iloadn rfl dL_of_4) ?_
  refine Y.op (pc' := 6) (fun _ => X.iloadn rfl dL_of_5) ?_
  refine Y.op (pc' := 7) (fun _ => X.iloadn rfl dL_of_6) ?_
  exact Y.callW (As := [.int p1, .int p2, .int p3]) lk_L_48 rfl cal_X9_of vir_X9_of (Nat.le_of_ble_eq_true rfl) (Nat.le_of_ble_eq_true rfl) rfl rfl rfl rfl dL_of_7 dL_of_10 dL_of_11 dL_of_12 (by decide) dL_of_23 dL_of_24 wh_L_of (fun _ e => m_X9_of a0 p1 p2 p3 h _ _ e)
theorem m_L_of {g : xG} (a0 : Nat) (p1 : Int32) (p2 : Int32) (p3 : Int32) (o : Nat) (h : xH) (cl : Bool) (r : Int32 × xH × Nat) (e : f_L_of a0 p1 p2 p3 o h = some r) : XM g DL_of [.ref a0, .int p1, .int p2, .int p3, .ref o] h cl (iW r) := by
  have q := y_L_of (g := g) (h0 := h) (cl := cl) a0 p1 p2 p3 o h r e
  exact XM.ofH rfl rfl (Nat.le_of_ble_eq_true rfl) q.1.1 q.1.2.1 q.2
def wc_L_fit (E : String) : Option Int32 := if E = NSE then some 1 else none
def f_L_fit (a0 : Nat) (p1 : Int32) (p2 : Int32) (o : Nat) (h : xH) : Option (Int32 × xH × Nat) := (vc h 9 a0 (f_X9_fit a0 p1 p2 h)).bind (wrp o wc_L_fit)
theorem wh_L_fit (E : String) (c : Int32) (e : wc_L_fit E = some c) : xHan DL_fit 5 E c := by
  unfold wc_L_fit at e
  split at e
  · rename_i q; subst q; cases e; exact ⟨[], [], 0, 10, 13, 22, 4, 2, 1, NSE, rfl, (fun z hz => nomatch hz), by decide, by decide, wx_22, wt_NSE, Nat.le_of_ble_eq_true rfl, Or.inr ⟨rfl, dL_fit_13⟩, dL_fit_15, by decide, dL_fit_16⟩
  · cases e
theorem y_L_fit {g : xG} {h0 : xH} {cl : Bool} (a0 : Nat) (p1 : Int32) (p2 : Int32) (o : Nat) (h : xH) : Y g DL_fit h0 cl iW (f_L_fit a0 p1 p2 o h) 0 [some (.ref a0), some (.int p1), some (.int p2), some (.ref o), none] [] h := by
  unfold f_L_fit
  refine Y.op (pc' := 1) (fun _ => X.aloadn rfl dL_fit_0) ?_
  refine Y.op (pc' := 2) (fun _ => X.ic (v := 0) (by decide) dL_fit_1) ?_
  refine Y.op (pc' := 3) (fun _ => X.aloadn rfl dL_fit_2) ?_
  refine Y.op (pc' := 4) (fun _ => X.iloadn rfl dL_fit_3) ?_
  refine Y.op (pc' := 5) (fun _ => X.iloadn rfl dL_fit_4) ?_
  exact Y.callW (As := [.int p1, .int p2]) lk_L_52 rfl cal_X9_fit vir_X9_fit (Nat.le_of_ble_eq_true rfl) (Nat.le_of_ble_eq_true rfl) rfl rfl rfl rfl dL_fit_5 dL_fit_8 dL_fit_9 dL_fit_10 (by decide) dL_fit_17 dL_fit_18 wh_L_fit (fun _ e => m_X9_fit a0 p1 p2 h _ _ e)
theorem m_L_fit {g : xG} (a0 : Nat) (p1 : Int32) (p2 : Int32) (o : Nat) (h : xH) (cl : Bool) (r : Int32 × xH × Nat) (e : f_L_fit a0 p1 p2 o h = some r) : XM g DL_fit [.ref a0, .int p1, .int p2, .ref o] h cl (iW r) := by
  have q := y_L_fit (g := g) (h0 := h) (cl := cl) a0 p1 p2 o h r e
  exact XM.ofH rfl rfl (Nat.le_of_ble_eq_true rfl) q.1.1 q.1.2.1 q.2
def wc_L_fitMany (E : String) : Option Int32 := if E = IAE then some 1 else none
def f_L_fitMany (a0 : Nat) (p1 : Int32) (o : Nat) (h : xH) : Option (Int32 × xH × Nat) := (vc h 9 a0 (f_X9_fitMany a0 p1 h)).bind (wrp o wc_L_fitMany)
theorem wh_L_fitMany (E : String) (c : Int32) (e : wc_L_fitMany E = some c) : xHan DL_fitMany 4 E c := by
  unfold wc_L_fitMany at e
  split at e
  · rename_i q; subst q; cases e; exact ⟨[], [], 0, 9, 12, 13, 3, 1, 1, IAE, rfl, (fun z hz => nomatch hz), by decide, by decide, wx_13, wt_IAE, Nat.le_of_ble_eq_true rfl, Or.inl ⟨rfl, 3, rfl, dL_fitMany_12⟩, dL_fitMany_13, by decide, dL_fitMany_14⟩
  · cases e
theorem y_L_fitMany {g : xG} {h0 : xH} {cl : Bool} (a0 : Nat) (p1 : Int32) (o : Nat) (h : xH) : Y g DL_fitMany h0 cl iW (f_L_fitMany a0 p1 o h) 0 [some (.ref a0), some (.int p1), some (.ref o), none] [] h := by
  unfold f_L_fitMany
  refine Y.op (pc' := 1) (fun _ => X.aloadn rfl dL_fitMany_0) ?_
  refine Y.op (pc' := 2) (fun _ => X.ic (v := 0) (by decide) dL_fitMany_1) ?_
  refine Y.op (pc' := 3) (fun _ => X.aloadn rfl dL_fitMany_2) ?_
  refine Y.op (pc' := 4) (fun _ => X.iloadn rfl dL_fitMany_3) ?_
  exact Y.callW (As := [.int p1]) lk_L_55 rfl cal_X9_fitMany vir_X9_fitMany (Nat.le_of_ble_eq_true rfl) (Nat.le_of_ble_eq_true rfl) rfl rfl rfl rfl dL_fitMany_4 dL_fitMany_7 dL_fitMany_8 dL_fitMany_9 (by decide) dL_fitMany_15 dL_fitMany_16 wh_L_fitMany (fun _ e => m_X9_fitMany a0 p1 h _ _ e)
theorem m_L_fitMany {g : xG} (a0 : Nat) (p1 : Int32) (o : Nat) (h : xH) (cl : Bool) (r : Int32 × xH × Nat) (e : f_L_fitMany a0 p1 o h = some r) : XM g DL_fitMany [.ref a0, .int p1, .ref o] h cl (iW r) := by
  have q := y_L_fitMany (g := g) (h0 := h) (cl := cl) a0 p1 o h r e
  exact XM.ofH rfl rfl (Nat.le_of_ble_eq_true rfl) q.1.1 q.1.2.1 q.2
def wc_L_lack (E : String) : Option Int32 := if E = IAE then some 1 else none
def f_L_lack (a0 : Nat) (p1 : Int32) (o : Nat) (h : xH) : Option (Int32 × xH × Nat) := (vc h 9 a0 (f_X9_lack a0 p1 h)).bind (wrp o wc_L_lack)
theorem wh_L_lack (E : String) (c : Int32) (e : wc_L_lack E = some c) : xHan DL_lack 4 E c := by
  unfold wc_L_lack at e
  split at e
  · rename_i q; subst q; cases e; exact ⟨[], [], 0, 9, 12, 13, 3, 1, 1, IAE, rfl, (fun z hz => nomatch hz), by decide, by decide, wx_13, wt_IAE, Nat.le_of_ble_eq_true rfl, Or.inl ⟨rfl, 3, rfl, dL_lack_12⟩, dL_lack_13, by decide, dL_lack_14⟩
  · cases e
theorem y_L_lack {g : xG} {h0 : xH} {cl : Bool} (a0 : Nat) (p1 : Int32) (o : Nat) (h : xH) : Y g DL_lack h0 cl iW (f_L_lack a0 p1 o h) 0 [some (.ref a0), some (.int p1), some (.ref o), none] [] h := by
  unfold f_L_lack
  refine Y.op (pc' := 1) (fun _ => X.aloadn rfl dL_lack_0) ?_
  refine Y.op (pc' := 2) (fun _ => X.ic (v := 0) (by decide) dL_lack_1) ?_
  refine Y.op (pc' := 3) (fun _ => X.aloadn rfl dL_lack_2) ?_
  refine Y.op (pc' := 4) (fun _ => X.iloadn rfl dL_lack_3) ?_
  exact Y.callW (As := [.int p1]) lk_L_58 rfl cal_X9_lack vir_X9_lack (Nat.le_of_ble_eq_true rfl) (Nat.le_of_ble_eq_true rfl) rfl rfl rfl rfl dL_lack_4 dL_lack_7 dL_lack_8 dL_lack_9 (by decide) dL_lack_15 dL_lack_16 wh_L_lack (fun _ e => m_X9_lack a0 p1 h _ _ e)
theorem m_L_lack {g : xG} (a0 : Nat) (p1 : Int32) (o : Nat) (h : xH) (cl : Bool) (r : Int32 × xH × Nat) (e : f_L_lack a0 p1 o h = some r) : XM g DL_lack [.ref a0, .int p1, .ref o] h cl (iW r) := by
  have q := y_L_lack (g := g) (h0 := h) (cl := cl) a0 p1 o h r e
  exact XM.ofH rfl rfl (Nat.le_of_ble_eq_true rfl) q.1.1 q.1.2.1 q.2
def wc_L_hall (E : String) : Option Int32 := if E = IAE then some 1 else none
def f_L_hall (a0 : Nat) (p1 : Int32) (o : Nat) (h : xH) : Option (Int32 × xH × Nat) := (vc h 9 a0 (f_X9_hall a0 p1 h)).bind (wrp o wc_L_hall)
theorem wh_L_hall (E : String) (c : Int32) (e : wc_L_hall E = some c) : xHan DL_hall 4 E c := by
  unfold wc_L_hall at e
  split at e
  · rename_i q; subst q; cases e; exact ⟨[], [], 0, 9, 12, 13, 3, 1, 1, IAE, rfl, (fun z hz => nomatch hz), by decide, by decide, wx_13, wt_IAE, Nat.le_of_ble_eq_true rfl, Or.inl ⟨rfl, 3, rfl, dL_hall_12⟩, dL_hall_13, by decide, dL_hall_14⟩
  · cases e
theorem y_L_hall {g : xG} {h0 : xH} {cl : Bool} (a0 : Nat) (p1 : Int32) (o : Nat) (h : xH) : Y g DL_hall h0 cl iW (f_L_hall a0 p1 o h) 0 [some (.ref a0), some (.int p1), some (.ref o), none] [] h := by
  unfold f_L_hall
  refine Y.op (pc' := 1) (fun _ => X.aloadn rfl dL_hall_0) ?_
  refine Y.op (pc' := 2) (fun _ => X.ic (v := 0) (by decide) dL_hall_1) ?_
  refine Y.op (pc' := 3) (fun _ => X.aloadn rfl dL_hall_2) ?_
  refine Y.op (pc' := 4) (fun _ => X.iloadn rfl dL_hall_3) ?_
  exact Y.callW (As := [.int p1]) lk_L_61 rfl cal_X9_hall vir_X9_hall (Nat.le_of_ble_eq_true rfl) (Nat.le_of_ble_eq_true rfl) rfl rfl rfl rfl dL_hall_4 dL_hall_7 dL_hall_8 dL_hall_9 (by decide) dL_hall_15 dL_hall_16 wh_L_hall (fun _ e => m_X9_hall a0 p1 h _ _ e)
theorem m_L_hall {g : xG} (a0 : Nat) (p1 : Int32) (o : Nat) (h : xH) (cl : Bool) (r : Int32 × xH × Nat) (e : f_L_hall a0 p1 o h = some r) : XM g DL_hall [.ref a0, .int p1, .ref o] h cl (iW r) := by
  have q := y_L_hall (g := g) (h0 := h) (cl := cl) a0 p1 o h r e
  exact XM.ofH rfl rfl (Nat.le_of_ble_eq_true rfl) q.1.1 q.1.2.1 q.2
def wc_L_cheap (E : String) : Option Int32 := if E = IAE then some 1 else none
def f_L_cheap (a0 : Nat) (p1 : Int32) (o : Nat) (h : xH) : Option (Int32 × xH × Nat) := (vc h 9 a0 (f_X9_cheap a0 p1 h)).bind (wrp o wc_L_cheap)
theorem wh_L_cheap (E : String) (c : Int32) (e : wc_L_cheap E = some c) : xHan DL_cheap 4 E c := by
  unfold wc_L_cheap at e
  split at e
  · rename_i q; subst q; cases e; exact ⟨[], [], 0, 9, 12, 13, 3, 1, 1, IAE, rfl, (fun z hz => nomatch hz), by decide, by decide, wx_13, wt_IAE, Nat.le_of_ble_eq_true rfl, Or.inl ⟨rfl, 3, rfl, dL_cheap_12⟩, dL_cheap_13, by decide, dL_cheap_14⟩
  · cases e
theorem y_L_cheap {g : xG} {h0 : xH} {cl : Bool} (a0 : Nat) (p1 : Int32) (o : Nat) (h : xH) : Y g DL_cheap h0 cl iW (f_L_cheap a0 p1 o h) 0 [some (.ref a0), some (.int p1), some (.ref o), none] [] h := by
  unfold f_L_cheap
  refine Y.op (pc' := 1) (fun _ => X.aloadn rfl dL_cheap_0) ?_
  refine Y.op (pc' := 2) (fun _ => X.ic (v := 0) (by decide) dL_cheap_1) ?_
  refine Y.op (pc' := 3) (fun _ => X.aloadn rfl dL_cheap_2) ?_
  refine Y.op (pc' := 4) (fun _ => X.iloadn rfl dL_cheap_3) ?_
  exact Y.callW (As := [.int p1]) lk_L_64 rfl cal_X9_cheap vir_X9_cheap (Nat.le_of_ble_eq_true rfl) (Nat.le_of_ble_eq_true rfl) rfl rfl rfl rfl dL_cheap_4 dL_cheap_7 dL_cheap_8 dL_cheap_9 (by decide) dL_cheap_15 dL_cheap_16 wh_L_cheap (fun _ e => m_X9_cheap a0 p1 h _ _ e)
theorem m_L_cheap {g : xG} (a0 : Nat) (p1 : Int32) (o : Nat) (h : xH) (cl : Bool) (r : Int32 × xH × Nat) (e : f_L_cheap a0 p1 o h = some r) : XM g DL_cheap [.ref a0, .int p1, .ref o] h cl (iW r) := by
  have q := y_L_cheap (g := g) (h0 := h) (cl := cl) a0 p1 o h r e
  exact XM.ofH rfl rfl (Nat.le_of_ble_eq_true rfl) q.1.1 q.1.2.1 q.2
def wc_L_cheapest (E : String) : Option Int32 := if E = NSE then some 1 else none
def f_L_cheapest (a0 : Nat) (p1 : Int32) (o : Nat) (h : xH) : Option (Int32 × xH × Nat) := (vc h 9 a0 (f_X9_cheapest a0 p1 h)).bind (wrp o wc_L_cheapest)
theorem wh_L_cheapest (E : String) (c : Int32) (e : wc_L_cheapest E = some c) : xHan DL_cheapest 4 E c := by
  unfold wc_L_cheapest at e
  split at e
  · rename_i q; subst q; cases e; exact ⟨[], [], 0, 9, 12, 22, 3, 1, 1, NSE, rfl, (fun z hz => nomatch hz), by decide, by decide, wx_22, wt_NSE, Nat.le_of_ble_eq_true rfl, Or.inl ⟨rfl, 3, rfl, dL_cheapest_12⟩, dL_cheapest_13, by decide, dL_cheapest_14⟩
  · cases e
theorem y_L_cheapest {g : xG} {h0 : xH} {cl : Bool} (a0 : Nat) (p1 : Int32) (o : Nat) (h : xH) : Y g DL_cheapest h0 cl iW (f_L_cheapest a0 p1 o h) 0 [some (.ref a0), some (.int p1), some (.ref o), none] [] h := by
  unfold f_L_cheapest
  refine Y.op (pc' := 1) (fun _ => X.aloadn rfl dL_cheapest_0) ?_
  refine Y.op (pc' := 2) (fun _ => X.ic (v := 0) (by decide) dL_cheapest_1) ?_
  refine Y.op (pc' := 3) (fun _ => X.aloadn rfl dL_cheapest_2) ?_
  refine Y.op (pc' := 4) (fun _ => X.iloadn rfl dL_cheapest_3) ?_
  exact Y.callW (As := [.int p1]) lk_L_67 rfl cal_X9_cheapest vir_X9_cheapest (Nat.le_of_ble_eq_true rfl) (Nat.le_of_ble_eq_true rfl) rfl rfl rfl rfl dL_cheapest_4 dL_cheapest_7 dL_cheapest_8 dL_cheapest_9 (by decide) dL_cheapest_15 dL_cheapest_16 wh_L_cheapest (fun _ e => m_X9_cheapest a0 p1 h _ _ e)
theorem m_L_cheapest {g : xG} (a0 : Nat) (p1 : Int32) (o : Nat) (h : xH) (cl : Bool) (r : Int32 × xH × Nat) (e : f_L_cheapest a0 p1 o h = some r) : XM g DL_cheapest [.ref a0, .int p1, .ref o] h cl (iW r) := by
  have q := y_L_cheapest (g := g) (h0 := h) (cl := cl) a0 p1 o h r e
  exact XM.ofH rfl rfl (Nat.le_of_ble_eq_true rfl) q.1.1 q.1.2.1 q.2
def wc_L_more (E : String) : Option Int32 := if E = IAE then some 1 else none
def f_L_more (a0 : Nat) (p1 : Int32) (o : Nat) (h : xH) : Option (Int32 × xH × Nat) := (vc h 9 a0 (f_X9_more a0 p1 h)).bind (wrp o wc_L_more)
theorem wh_L_more (E : String) (c : Int32) (e : wc_L_more E = some c) : xHan DL_more 4 E c := by
  unfold wc_L_more at e
  split at e
  · rename_i q; subst q; cases e; exact ⟨[], [], 0, 9, 12, 13, 3, 1, 1, IAE, rfl, (fun z hz => nomatch hz), by decide, by decide, wx_13, wt_IAE, Nat.le_of_ble_eq_true rfl, Or.inl ⟨rfl, 3, rfl, dL_more_12⟩, dL_more_13, by decide, dL_more_14⟩
  · cases e
theorem y_L_more {g : xG} {h0 : xH} {cl : Bool} (a0 : Nat) (p1 : Int32) (o : Nat) (h : xH) : Y g DL_more h0 cl iW (f_L_more a0 p1 o h) 0 [some (.ref a0), some (.int p1), some (.ref o), none] [] h := by
  unfold f_L_more
  refine Y.op (pc' := 1) (fun _ => X.aloadn rfl dL_more_0) ?_
  refine Y.op (pc' := 2) (fun _ => X.ic (v := 0) (by decide) dL_more_1) ?_
  refine Y.op (pc' := 3) (fun _ => X.aloadn rfl dL_more_2) ?_
  refine Y.op (pc' := 4) (fun _ => X.iloadn rfl dL_more_3) ?_
  exact Y.callW (As := [.int p1]) lk_L_70 rfl cal_X9_more vir_X9_more (Nat.le_of_ble_eq_true rfl) (Nat.le_of_ble_eq_true rfl) rfl rfl rfl rfl dL_more_4 dL_more_7 dL_more_8 dL_more_9 (by decide) dL_more_15 dL_more_16 wh_L_more (fun _ e => m_X9_more a0 p1 h _ _ e)
theorem m_L_more {g : xG} (a0 : Nat) (p1 : Int32) (o : Nat) (h : xH) (cl : Bool) (r : Int32 × xH × Nat) (e : f_L_more a0 p1 o h = some r) : XM g DL_more [.ref a0, .int p1, .ref o] h cl (iW r) := by
  have q := y_L_more (g := g) (h0 := h) (cl := cl) a0 p1 o h r e
  exact XM.ofH rfl rfl (Nat.le_of_ble_eq_true rfl) q.1.1 q.1.2.1 q.2
def wc_L_fewest (E : String) : Option Int32 := if E = IAE then some 1 else none
def f_L_fewest (a0 : Nat) (p1 : Int32) (o : Nat) (h : xH) : Option (Int32 × xH × Nat) := (vc h 9 a0 (f_X9_fewest a0 p1 h)).bind (wrp o wc_L_fewest)
theorem wh_L_fewest (E : String) (c : Int32) (e : wc_L_fewest E = some c) : xHan DL_fewest 4 E c := by
  unfold wc_L_fewest at e
  split at e
  · rename_i q; subst q; cases e; exact ⟨[], [], 0, 9, 12, 13, 3, 1, 1, IAE, rfl, (fun z hz => nomatch hz), by decide, by decide, wx_13, wt_IAE, Nat.le_of_ble_eq_true rfl, Or.inl ⟨rfl, 3, rfl, dL_fewest_12⟩, dL_fewest_13, by decide, dL_fewest_14⟩
  · cases e
theorem y_L_fewest {g : xG} {h0 : xH} {cl : Bool} (a0 : Nat) (p1 : Int32) (o : Nat) (h : xH) : Y g DL_fewest h0 cl iW (f_L_fewest a0 p1 o h) 0 [some (.ref a0), some (.int p1), some (.ref o), none] [] h := by
  unfold f_L_fewest
  refine Y.op (pc' := 1) (fun _ => X.aloadn rfl dL_fewest_0) ?_
  refine Y.op (pc' := 2) (fun _ => X.ic (v := 0) (by decide) dL_fewest_1) ?_
  refine Y.op (pc' := 3) (fun _ => X.aloadn rfl dL_fewest_2) ?_
  refine Y.op (pc' := 4) (fun _ => X.iloadn rfl dL_fewest_3) ?_
  exact Y.callW (As := [.int p1]) lk_L_73 rfl cal_X9_fewest vir_X9_fewest (Nat.le_of_ble_eq_true rfl) (Nat.le_of_ble_eq_true rfl) rfl rfl rfl rfl dL_fewest_4 dL_fewest_7 dL_fewest_8 dL_fewest_9 (by decide) dL_fewest_15 dL_fewest_16 wh_L_fewest (fun _ e => m_X9_fewest a0 p1 h _ _ e)
theorem m_L_fewest {g : xG} (a0 : Nat) (p1 : Int32) (o : Nat) (h : xH) (cl : Bool) (r : Int32 × xH × Nat) (e : f_L_fewest a0 p1 o h = some r) : XM g DL_fewest [.ref a0, .int p1, .ref o] h cl (iW r) := by
  have q := y_L_fewest (g := g) (h0 := h) (cl := cl) a0 p1 o h r e
  exact XM.ofH rfl rfl (Nat.le_of_ble_eq_true rfl) q.1.1 q.1.2.1 q.2
def wc_L_chosen (E : String) : Option Int32 := if E = IAE then some 1 else none
def f_L_chosen (a0 : Nat) (p1 : Int32) (o : Nat) (h : xH) : Option (Int32 × xH × Nat) := (vc h 9 a0 (f_X9_chosen a0 p1 h)).bind (wrp o wc_L_chosen)
theorem wh_L_chosen (E : String) (c : Int32) (e : wc_L_chosen E = some c) : xHan DL_chosen 4 E c := by
  unfold wc_L_chosen at e
  split at e
  · rename_i q; subst q; cases e; exact ⟨[], [], 0, 9, 12, 13, 3, 1, 1, IAE, rfl, (fun z hz => nomatch hz), by decide, by decide, wx_13, wt_IAE, Nat.le_of_ble_eq_true rfl, Or.inl ⟨rfl, 3, rfl, dL_chosen_12⟩, dL_chosen_13, by decide, dL_chosen_14⟩
  · cases e
theorem y_L_chosen {g : xG} {h0 : xH} {cl : Bool} (a0 : Nat) (p1 : Int32) (o : Nat) (h : xH) : Y g DL_chosen h0 cl iW (f_L_chosen a0 p1 o h) 0 [some (.ref a0), some (.int p1), some (.ref o), none] [] h := by
  unfold f_L_chosen
  refine Y.op (pc' := 1) (fun _ => X.aloadn rfl dL_chosen_0) ?_
  refine Y.op (pc' := 2) (fun _ => X.ic (v := 0) (by decide) dL_chosen_1) ?_
  refine Y.op (pc' := 3) (fun _ => X.aloadn rfl dL_chosen_2) ?_
  refine Y.op (pc' := 4) (fun _ => X.iloadn rfl dL_chosen_3) ?_
  exact Y.callW (As := [.int p1]) lk_L_76 rfl cal_X9_chosen vir_X9_chosen (Nat.le_of_ble_eq_true rfl) (Nat.le_of_ble_eq_true rfl) rfl rfl rfl rfl dL_chosen_4 dL_chosen_7 dL_chosen_8 dL_chosen_9 (by decide) dL_chosen_15 dL_chosen_16 wh_L_chosen (fun _ e => m_X9_chosen a0 p1 h _ _ e)
theorem m_L_chosen {g : xG} (a0 : Nat) (p1 : Int32) (o : Nat) (h : xH) (cl : Bool) (r : Int32 × xH × Nat) (e : f_L_chosen a0 p1 o h = some r) : XM g DL_chosen [.ref a0, .int p1, .ref o] h cl (iW r) := by
  have q := y_L_chosen (g := g) (h0 := h) (cl := cl) a0 p1 o h r e
  exact XM.ofH rfl rfl (Nat.le_of_ble_eq_true rfl) q.1.1 q.1.2.1 q.2
def wc_L_round (E : String) : Option Int32 := if E = NSE then some 1 else none
def f_L_round (a0 : Nat) (p1 : Int32) (p2 : Int32) (o : Nat) (h : xH) : Option (Int32 × xH × Nat) := (vc h 9 a0 (f_X9_round a0 p1 p2 h)).bind (wrp o wc_L_round)
theorem wh_L_round (E : String) (c : Int32) (e : wc_L_round E = some c) : xHan DL_round 5 E c := by
  unfold wc_L_round at e
  split at e
  · rename_i q; subst q; cases e; exact ⟨[], [], 0, 10, 13, 22, 4, 2, 1, NSE, rfl, (fun z hz => nomatch hz), by decide, by decide, wx_22, wt_NSE, Nat.le_of_ble_eq_true rfl, Or.inr ⟨rfl, dL_round_13⟩, dL_round_15, by decide, dL_round_16⟩
  · cases e
theorem y_L_round {g : xG} {h0 : xH} {cl : Bool} (a0 : Nat) (p1 : Int32) (p2 : Int32) (o : Nat) (h : xH) : Y g DL_round h0 cl iW (f_L_round a0 p1 p2 o h) 0 [some (.ref a0), some (.int p1), some (.int p2), some (.ref o), none] [] h := by
  unfold f_L_round
  refine Y.op (pc' := 1) (fun _ => X.aloadn rfl dL_round_0) ?_
  refine Y.op (pc' := 2) (fun _ => X.ic (v := 0) (by decide) dL_round_1) ?_
  refine Y.op (pc' := 3) (fun _ => X.aloadn rfl dL_round_2) ?_
  refine Y.op (pc' := 4) (fun _ => X.iloadn rfl dL_round_3) ?_
  refine Y.op (pc' := 5) (fun _ => X.iloadn rfl dL_round_4) ?_
  exact Y.callW (As := [.int p1, .int p2]) lk_L_79 rfl cal_X9_round vir_X9_round (Nat.le_of_ble_eq_true rfl) (Nat.le_of_ble_eq_true rfl) rfl rfl rfl rfl dL_round_5 dL_round_8 dL_round_9 dL_round_10 (by decide) dL_round_17 dL_round_18 wh_L_round (fun _ e => m_X9_round a0 p1 p2 h _ _ e)
theorem m_L_round {g : xG} (a0 : Nat) (p1 : Int32) (p2 : Int32) (o : Nat) (h : xH) (cl : Bool) (r : Int32 × xH × Nat) (e : f_L_round a0 p1 p2 o h = some r) : XM g DL_round [.ref a0, .int p1, .int p2, .ref o] h cl (iW r) := by
  have q := y_L_round (g := g) (h0 := h) (cl := cl) a0 p1 p2 o h r e
  exact XM.ofH rfl rfl (Nat.le_of_ble_eq_true rfl) q.1.1 q.1.2.1 q.2
def wc_L_add (E : String) : Option Int32 := if E = NSE then some 1 else if E = IAE then some 2 else none
def f_L_add (a0 : Nat) (p1 : Int32) (p2 : Int32) (p3 : Int32) (o : Nat) (h : xH) : Option (Int32 × xH × Nat) := (vc h 9 a0 (f_X9_add a0 p1 p2 p3 h)).bind (wrp o wc_L_add)
theorem wh_L_add (E : String) (c : Int32) (e : wc_L_add E = some c) : xHan DL_add 7 E c := by
  unfold wc_L_add at e
  split at e
  · rename_i q; subst q; cases e; exact ⟨[], [(0, 12, 19, 13)], 0, 12, 15, 22, 5, 2, 1, NSE, rfl, (fun z hz => nomatch hz), by decide, by decide, wx_22, wt_NSE, Nat.le_of_ble_eq_true rfl, Or.inr ⟨rfl, dL_add_15⟩, dL_add_17, by decide, dL_add_18⟩
  · split at e
    · rename_i q; subst q; cases e; exact ⟨[(0, 12, 15, 22)], [], 0, 12, 19, 13, 5, 2, 2, IAE, rfl, (fun z hz => by rw [List.mem_singleton.mp hz]; exact ⟨by decide, wx_22, rfl⟩), by decide, by decide, wx_13, wt_IAE, Nat.le_of_ble_eq_true rfl, Or.inr ⟨rfl, dL_add_19⟩, dL_add_21, by decide, dL_add_22⟩
    · cases e
theorem y_L_add {g : xG} {h0 : xH} {cl : Bool} (a0 : Nat) (p1 : Int32) (p2 : Int32) (p3 : Int32) (o : Nat) (h : xH) : Y g DL_add h0 cl iW (f_L_add a0 p1 p2 p3 o h) 0 [some (.ref a0), some (.int p1), some (.int p2), some (.int p3), some (.ref o), none] [] h := by
  unfold f_L_add
  refine Y.op (pc' := 2) (fun _ => X.aload rfl dL_add_0) ?_
  refine Y.op (pc' := 3) (fun _ => X.ic (v := 0) (by decide) dL_add_2) ?_
  refine Y.op (pc' := 4) (fun _ => X.aloadn rfl dL_add_3) ?_
  refine Y.op (pc' := 5) (fun _ => X.iloadn rfl dL_add_4) ?_
  refine Y.op (pc' := 6) (fun _ => X.iloadn rfl dL_add_5) ?_
  refine Y.op (pc' := 7) (fun _ => X.iloadn rfl dL_add_6) ?_
  exact Y.callW (As := [.int p1, .int p2, .int p3]) lk_L_82 rfl cal_X9_add vir_X9_add (Nat.le_of_ble_eq_true rfl) (Nat.le_of_ble_eq_true rfl) rfl rfl rfl rfl dL_add_7 dL_add_10 dL_add_11 dL_add_12 (by decide) dL_add_23 dL_add_24 wh_L_add (fun _ e => m_X9_add a0 p1 p2 p3 h _ _ e)
theorem m_L_add {g : xG} (a0 : Nat) (p1 : Int32) (p2 : Int32) (p3 : Int32) (o : Nat) (h : xH) (cl : Bool) (r : Int32 × xH × Nat) (e : f_L_add a0 p1 p2 p3 o h = some r) : XM g DL_add [.ref a0, .int p1, .int p2, .int p3, .ref o] h cl (iW r) := by
  have q := y_L_add (g := g) (h0 := h) (cl := cl) a0 p1 p2 p3 o h r e
  exact XM.ofH rfl rfl (Nat.le_of_ble_eq_true rfl) q.1.1 q.1.2.1 q.2
def wc_L_drop (E : String) : Option Int32 := if E = NSE then some 1 else if E = IAE then some 2 else none
def f_L_drop (a0 : Nat) (p1 : Int32) (p2 : Int32) (o : Nat) (h : xH) : Option (Int32 × xH × Nat) := (vc h 9 a0 (f_X9_drop a0 p1 p2 h)).bind (wrp o wc_L_drop)
theorem wh_L_drop (E : String) (c : Int32) (e : wc_L_drop E = some c) : xHan DL_drop 5 E c := by
  unfold wc_L_drop at e
  split at e
  · rename_i q; subst q; cases e; exact ⟨[], [(0, 10, 17, 13)], 0, 10, 13, 22, 4, 2, 1, NSE, rfl, (fun z hz => nomatch hz), by decide, by decide, wx_22, wt_NSE, Nat.le_of_ble_eq_true rfl, Or.inr ⟨rfl, dL_drop_13⟩, dL_drop_15, by decide, dL_drop_16⟩
  · split at e
    · rename_i q; subst q; cases e; exact ⟨[(0, 10, 13, 22)], [], 0, 10, 17, 13, 4, 2, 2, IAE, rfl, (fun z hz => by rw [List.mem_singleton.mp hz]; exact ⟨by decide, wx_22, rfl⟩), by decide, by decide, wx_13, wt_IAE, Nat.le_of_ble_eq_true rfl, Or.inr ⟨rfl, dL_drop_17⟩, dL_drop_19, by decide, dL_drop_20⟩
    · cases e
theorem y_L_drop {g : xG} {h0 : xH} {cl : Bool} (a0 : Nat) (p1 : Int32) (p2 : Int32) (o : Nat) (h : xH) : Y g DL_drop h0 cl iW (f_L_drop a0 p1 p2 o h) 0 [some (.ref a0), some (.int p1), some (.int p2), some (.ref o), none] [] h := by
  unfold f_L_drop
  refine Y.op (pc' := 1) (fun _ => X.aloadn rfl dL_drop_0) ?_
  refine Y.op (pc' := 2) (fun _ => X.ic (v := 0) (by decide) dL_drop_1) ?_
  refine Y.op (pc' := 3) (fun _ => X.aloadn rfl dL_drop_2) ?_
  refine Y.op (pc' := 4) (fun _ => X.iloadn rfl dL_drop_3) ?_
  refine Y.op (pc' := 5) (fun _ => X.iloadn rfl dL_drop_4) ?_
  exact Y.callW (As := [.int p1, .int p2]) lk_L_85 rfl cal_X9_drop vir_X9_drop (Nat.le_of_ble_eq_true rfl) (Nat.le_of_ble_eq_true rfl) rfl rfl rfl rfl dL_drop_5 dL_drop_8 dL_drop_9 dL_drop_10 (by decide) dL_drop_21 dL_drop_22 wh_L_drop (fun _ e => m_X9_drop a0 p1 p2 h _ _ e)
theorem m_L_drop {g : xG} (a0 : Nat) (p1 : Int32) (p2 : Int32) (o : Nat) (h : xH) (cl : Bool) (r : Int32 × xH × Nat) (e : f_L_drop a0 p1 p2 o h = some r) : XM g DL_drop [.ref a0, .int p1, .int p2, .ref o] h cl (iW r) := by
  have q := y_L_drop (g := g) (h0 := h) (cl := cl) a0 p1 p2 o h r e
  exact XM.ofH rfl rfl (Nat.le_of_ble_eq_true rfl) q.1.1 q.1.2.1 q.2
def wc_L_is (E : String) : Option Int32 := if E = NSE then some 1 else if E = IAE then some 2 else none
def f_L_is (a0 : Nat) (p1 : Int32) (p2 : Int32) (p3 : Int32) (o : Nat) (h : xH) : Option (Int32 × xH × Nat) := (vc h 9 a0 (f_X9_is a0 p1 p2 p3 h)).bind (wrp o wc_L_is)
theorem wh_L_is (E : String) (c : Int32) (e : wc_L_is E = some c) : xHan DL_is 7 E c := by
  unfold wc_L_is at e
  split at e
  · rename_i q; subst q; cases e; exact ⟨[], [(0, 12, 19, 13)], 0, 12, 15, 22, 5, 2, 1, NSE, rfl, (fun z hz => nomatch hz), by decide, by decide, wx_22, wt_NSE, Nat.le_of_ble_eq_true rfl, Or.inr ⟨rfl, dL_is_15⟩, dL_is_17, by decide, dL_is_18⟩
  · split at e
    · rename_i q; subst q; cases e; exact ⟨[(0, 12, 15, 22)], [], 0, 12, 19, 13, 5, 2, 2, IAE, rfl, (fun z hz => by rw [List.mem_singleton.mp hz]; exact ⟨by decide, wx_22, rfl⟩), by decide, by decide, wx_13, wt_IAE, Nat.le_of_ble_eq_true rfl, Or.inr ⟨rfl, dL_is_19⟩, dL_is_21, by decide, dL_is_22⟩
    · cases e
theorem y_L_is {g : xG} {h0 : xH} {cl : Bool} (a0 : Nat) (p1 : Int32) (p2 : Int32) (p3 : Int32) (o : Nat) (h : xH) : Y g DL_is h0 cl iW (f_L_is a0 p1 p2 p3 o h) 0 [some (.ref a0), some (.int p1), some (.int p2), some (.int p3), some (.ref o), none] [] h := by
  unfold f_L_is
  refine Y.op (pc' := 2) (fun _ => X.aload rfl dL_is_0) ?_
  refine Y.op (pc' := 3) (fun _ => X.ic (v := 0) (by decide) dL_is_2) ?_
  refine Y.op (pc' := 4) (fun _ => X.aloadn rfl dL_is_3) ?_
  refine Y.op (pc' := 5) (fun _ => X.iloadn rfl dL_is_4) ?_
  refine Y.op (pc' := 6) (fun _ => X.iloadn rfl dL_is_5) ?_
  refine Y.op (pc' := 7) (fun _ => X.iloadn rfl dL_is_6) ?_
  exact Y.callW (As := [.int p1, .int p2, .int p3]) lk_L_88 rfl cal_X9_is vir_X9_is (Nat.le_of_ble_eq_true rfl) (Nat.le_of_ble_eq_true rfl) rfl rfl rfl rfl dL_is_7 dL_is_10 dL_is_11 dL_is_12 (by decide) dL_is_23 dL_is_24 wh_L_is (fun _ e => m_X9_is a0 p1 p2 p3 h _ _ e)
theorem m_L_is {g : xG} (a0 : Nat) (p1 : Int32) (p2 : Int32) (p3 : Int32) (o : Nat) (h : xH) (cl : Bool) (r : Int32 × xH × Nat) (e : f_L_is a0 p1 p2 p3 o h = some r) : XM g DL_is [.ref a0, .int p1, .int p2, .int p3, .ref o] h cl (iW r) := by
  have q := y_L_is (g := g) (h0 := h) (cl := cl) a0 p1 p2 p3 o h r e
  exact XM.ofH rfl rfl (Nat.le_of_ble_eq_true rfl) q.1.1 q.1.2.1 q.2
def wc_L_pair (E : String) : Option Int32 := if E = NSE then some 1 else if E = IAE then some 2 else none
def f_L_pair (a0 : Nat) (p1 : Int32) (p2 : Int32) (o : Nat) (h : xH) : Option (Int32 × xH × Nat) := (vc h 9 a0 (f_X9_pair a0 p1 p2 h)).bind (wrp o wc_L_pair)
theorem wh_L_pair (E : String) (c : Int32) (e : wc_L_pair E = some c) : xHan DL_pair 5 E c := by
  unfold wc_L_pair at e
  split at e
  · rename_i q; subst q; cases e; exact ⟨[], [(0, 10, 17, 13)], 0, 10, 13, 22, 4, 2, 1, NSE, rfl, (fun z hz => nomatch hz), by decide, by decide, wx_22, wt_NSE, Nat.le_of_ble_eq_true rfl, Or.inr ⟨rfl, dL_pair_13⟩, dL_pair_15, by decide, dL_pair_16⟩
  · split at e
    · rename_i q; subst q; cases e; exact ⟨[(0, 10, 13, 22)], [], 0, 10, 17, 13, 4, 2, 2, IAE, rfl, (fun z hz => by rw [List.mem_singleton.mp hz]; exact ⟨by decide, wx_22, rfl⟩), by decide, by decide, wx_13, wt_IAE, Nat.le_of_ble_eq_true rfl, Or.inr ⟨rfl, dL_pair_17⟩, dL_pair_19, by decide, dL_pair_20⟩
    · cases e
theorem y_L_pair {g : xG} {h0 : xH} {cl : Bool} (a0 : Nat) (p1 : Int32) (p2 : Int32) (o : Nat) (h : xH) : Y g DL_pair h0 cl iW (f_L_pair a0 p1 p2 o h) 0 [some (.ref a0), some (.int p1), some (.int p2), some (.ref o), none] [] h := by
  unfold f_L_pair
  refine Y.op (pc' := 1) (fun _ => X.aloadn rfl dL_pair_0) ?_
  refine Y.op (pc' := 2) (fun _ => X.ic (v := 0) (by decide) dL_pair_1) ?_
  refine Y.op (pc' := 3) (fun _ => X.aloadn rfl dL_pair_2) ?_
  refine Y.op (pc' := 4) (fun _ => X.iloadn rfl dL_pair_3) ?_
  refine Y.op (pc' := 5) (fun _ => X.iloadn rfl dL_pair_4) ?_
  exact Y.callW (As := [.int p1, .int p2]) lk_L_91 rfl cal_X9_pair vir_X9_pair (Nat.le_of_ble_eq_true rfl) (Nat.le_of_ble_eq_true rfl) rfl rfl rfl rfl dL_pair_5 dL_pair_8 dL_pair_9 dL_pair_10 (by decide) dL_pair_21 dL_pair_22 wh_L_pair (fun _ e => m_X9_pair a0 p1 p2 h _ _ e)
theorem m_L_pair {g : xG} (a0 : Nat) (p1 : Int32) (p2 : Int32) (o : Nat) (h : xH) (cl : Bool) (r : Int32 × xH × Nat) (e : f_L_pair a0 p1 p2 o h = some r) : XM g DL_pair [.ref a0, .int p1, .int p2, .ref o] h cl (iW r) := by
  have q := y_L_pair (g := g) (h0 := h) (cl := cl) a0 p1 p2 o h r e
  exact XM.ofH rfl rfl (Nat.le_of_ble_eq_true rfl) q.1.1 q.1.2.1 q.2
def wc_L_part (E : String) : Option Int32 := if E = NSE then some 1 else if E = IAE then some 2 else none
def f_L_part (a0 : Nat) (p1 : Int32) (o : Nat) (h : xH) : Option (Int32 × xH × Nat) := (vc h 9 a0 (f_X9_part a0 p1 h)).bind (wrp o wc_L_part)
theorem wh_L_part (E : String) (c : Int32) (e : wc_L_part E = some c) : xHan DL_part 4 E c := by
  unfold wc_L_part at e
  split at e
  · rename_i q; subst q; cases e; exact ⟨[], [(0, 9, 15, 13)], 0, 9, 12, 22, 3, 1, 1, NSE, rfl, (fun z hz => nomatch hz), by decide, by decide, wx_22, wt_NSE, Nat.le_of_ble_eq_true rfl, Or.inl ⟨rfl, 3, rfl, dL_part_12⟩, dL_part_13, by decide, dL_part_14⟩
  · split at e
    · rename_i q; subst q; cases e; exact ⟨[(0, 9, 12, 22)], [], 0, 9, 15, 13, 3, 1, 2, IAE, rfl, (fun z hz => by rw [List.mem_singleton.mp hz]; exact ⟨by decide, wx_22, rfl⟩), by decide, by decide, wx_13, wt_IAE, Nat.le_of_ble_eq_true rfl, Or.inl ⟨rfl, 3, rfl, dL_part_15⟩, dL_part_16, by decide, dL_part_17⟩
    · cases e
theorem y_L_part {g : xG} {h0 : xH} {cl : Bool} (a0 : Nat) (p1 : Int32) (o : Nat) (h : xH) : Y g DL_part h0 cl iW (f_L_part a0 p1 o h) 0 [some (.ref a0), some (.int p1), some (.ref o), none] [] h := by
  unfold f_L_part
  refine Y.op (pc' := 1) (fun _ => X.aloadn rfl dL_part_0) ?_
  refine Y.op (pc' := 2) (fun _ => X.ic (v := 0) (by decide) dL_part_1) ?_
  refine Y.op (pc' := 3) (fun _ => X.aloadn rfl dL_part_2) ?_
  refine Y.op (pc' := 4) (fun _ => X.iloadn rfl dL_part_3) ?_
  exact Y.callW (As := [.int p1]) lk_L_94 rfl cal_X9_part vir_X9_part (Nat.le_of_ble_eq_true rfl) (Nat.le_of_ble_eq_true rfl) rfl rfl rfl rfl dL_part_4 dL_part_7 dL_part_8 dL_part_9 (by decide) dL_part_18 dL_part_19 wh_L_part (fun _ e => m_X9_part a0 p1 h _ _ e)
theorem m_L_part {g : xG} (a0 : Nat) (p1 : Int32) (o : Nat) (h : xH) (cl : Bool) (r : Int32 × xH × Nat) (e : f_L_part a0 p1 o h = some r) : XM g DL_part [.ref a0, .int p1, .ref o] h cl (iW r) := by
  have q := y_L_part (g := g) (h0 := h) (cl := cl) a0 p1 o h r e
  exact XM.ofH rfl rfl (Nat.le_of_ble_eq_true rfl) q.1.1 q.1.2.1 q.2
def wc_L_weight (E : String) : Option Int32 := if E = NSE then some 1 else if E = IAE then some 2 else none
def f_L_weight (a0 : Nat) (p1 : Int32) (p2 : Int32) (o : Nat) (h : xH) : Option (Int32 × xH × Nat) := (vc h 9 a0 (f_X9_weight a0 p1 p2 h)).bind (wrp o wc_L_weight)
theorem wh_L_weight (E : String) (c : Int32) (e : wc_L_weight E = some c) : xHan DL_weight 5 E c := by
  unfold wc_L_weight at e
  split at e
  · rename_i q; subst q; cases e; exact ⟨[], [(0, 10, 17, 13)], 0, 10, 13, 22, 4, 2, 1, NSE, rfl, (fun z hz => nomatch hz), by decide, by decide, wx_22, wt_NSE, Nat.le_of_ble_eq_true rfl, Or.inr ⟨rfl, dL_weight_13⟩, dL_weight_15, by decide, dL_weight_16⟩
  · split at e
    · rename_i q; subst q; cases e; exact ⟨[(0, 10, 13, 22)], [], 0, 10, 17, 13, 4, 2, 2, IAE, rfl, (fun z hz => by rw [List.mem_singleton.mp hz]; exact ⟨by decide, wx_22, rfl⟩), by decide, by decide, wx_13, wt_IAE, Nat.le_of_ble_eq_true rfl, Or.inr ⟨rfl, dL_weight_17⟩, dL_weight_19, by decide, dL_weight_20⟩
    · cases e
theorem y_L_weight {g : xG} {h0 : xH} {cl : Bool} (a0 : Nat) (p1 : Int32) (p2 : Int32) (o : Nat) (h : xH) : Y g DL_weight h0 cl iW (f_L_weight a0 p1 p2 o h) 0 [some (.ref a0), some (.int p1), some (.int p2), some (.ref o), none] [] h := by
  unfold f_L_weight
  refine Y.op (pc' := 1) (fun _ => X.aloadn rfl dL_weight_0) ?_
  refine Y.op (pc' := 2) (fun _ => X.ic (v := 0) (by decide) dL_weight_1) ?_
  refine Y.op (pc' := 3) (fun _ => X.aloadn rfl dL_weight_2) ?_
  refine Y.op (pc' := 4) (fun _ => X.iloadn rfl dL_weight_3) ?_
  refine Y.op (pc' := 5) (fun _ => X.iloadn rfl dL_weight_4) ?_
  exact Y.callW (As := [.int p1, .int p2]) lk_L_97 rfl cal_X9_weight vir_X9_weight (Nat.le_of_ble_eq_true rfl) (Nat.le_of_ble_eq_true rfl) rfl rfl rfl rfl dL_weight_5 dL_weight_8 dL_weight_9 dL_weight_10 (by decide) dL_weight_21 dL_weight_22 wh_L_weight (fun _ e => m_X9_weight a0 p1 p2 h _ _ e)
theorem m_L_weight {g : xG} (a0 : Nat) (p1 : Int32) (p2 : Int32) (o : Nat) (h : xH) (cl : Bool) (r : Int32 × xH × Nat) (e : f_L_weight a0 p1 p2 o h = some r) : XM g DL_weight [.ref a0, .int p1, .int p2, .ref o] h cl (iW r) := by
  have q := y_L_weight (g := g) (h0 := h) (cl := cl) a0 p1 p2 o h r e
  exact XM.ofH rfl rfl (Nat.le_of_ble_eq_true rfl) q.1.1 q.1.2.1 q.2
def wc_L_keep (E : String) : Option Int32 := if E = IAE then some 1 else none
def f_L_keep (a0 : Nat) (p1 : Int32) (o : Nat) (h : xH) : Option (Int32 × xH × Nat) := (vc h 9 a0 (f_X9_keep a0 p1 h)).bind (wrp o wc_L_keep)
theorem wh_L_keep (E : String) (c : Int32) (e : wc_L_keep E = some c) : xHan DL_keep 4 E c := by
  unfold wc_L_keep at e
  split at e
  · rename_i q; subst q; cases e; exact ⟨[], [], 0, 9, 12, 13, 3, 1, 1, IAE, rfl, (fun z hz => nomatch hz), by decide, by decide, wx_13, wt_IAE, Nat.le_of_ble_eq_true rfl, Or.inl ⟨rfl, 3, rfl, dL_keep_12⟩, dL_keep_13, by decide, dL_keep_14⟩
  · cases e
theorem y_L_keep {g : xG} {h0 : xH} {cl : Bool} (a0 : Nat) (p1 : Int32) (o : Nat) (h : xH) : Y g DL_keep h0 cl iW (f_L_keep a0 p1 o h) 0 [some (.ref a0), some (.int p1), some (.ref o), none] [] h := by
  unfold f_L_keep
  refine Y.op (pc' := 1) (fun _ => X.aloadn rfl dL_keep_0) ?_
  refine Y.op (pc' := 2) (fun _ => X.ic (v := 0) (by decide) dL_keep_1) ?_
  refine Y.op (pc' := 3) (fun _ => X.aloadn rfl dL_keep_2) ?_
  refine Y.op (pc' := 4) (fun _ => X.iloadn rfl dL_keep_3) ?_
  exact Y.callW (As := [.int p1]) lk_L_100 rfl cal_X9_keep vir_X9_keep (Nat.le_of_ble_eq_true rfl) (Nat.le_of_ble_eq_true rfl) rfl rfl rfl rfl dL_keep_4 dL_keep_7 dL_keep_8 dL_keep_9 (by decide) dL_keep_15 dL_keep_16 wh_L_keep (fun _ e => m_X9_keep a0 p1 h _ _ e)
theorem m_L_keep {g : xG} (a0 : Nat) (p1 : Int32) (o : Nat) (h : xH) (cl : Bool) (r : Int32 × xH × Nat) (e : f_L_keep a0 p1 o h = some r) : XM g DL_keep [.ref a0, .int p1, .ref o] h cl (iW r) := by
  have q := y_L_keep (g := g) (h0 := h) (cl := cl) a0 p1 o h r e
  exact XM.ofH rfl rfl (Nat.le_of_ble_eq_true rfl) q.1.1 q.1.2.1 q.2
def wc_L_settle (E : String) : Option Int32 := if E = IAE then some 1 else none
def f_L_settle (a0 : Nat) (p1 : Int32) (o : Nat) (h : xH) : Option (Int32 × xH × Nat) := (vc h 9 a0 (f_X9_settle a0 p1 h)).bind (wrp o wc_L_settle)
theorem wh_L_settle (E : String) (c : Int32) (e : wc_L_settle E = some c) : xHan DL_settle 4 E c := by
  unfold wc_L_settle at e
  split at e
  · rename_i q; subst q; cases e; exact ⟨[], [], 0, 9, 12, 13, 3, 1, 1, IAE, rfl, (fun z hz => nomatch hz), by decide, by decide, wx_13, wt_IAE, Nat.le_of_ble_eq_true rfl, Or.inl ⟨rfl, 3, rfl, dL_settle_12⟩, dL_settle_13, by decide, dL_settle_14⟩
  · cases e
theorem y_L_settle {g : xG} {h0 : xH} {cl : Bool} (a0 : Nat) (p1 : Int32) (o : Nat) (h : xH) : Y g DL_settle h0 cl iW (f_L_settle a0 p1 o h) 0 [some (.ref a0), some (.int p1), some (.ref o), none] [] h := by
  unfold f_L_settle
  refine Y.op (pc' := 1) (fun _ => X.aloadn rfl dL_settle_0) ?_
  refine Y.op (pc' := 2) (fun _ => X.ic (v := 0) (by decide) dL_settle_1) ?_
  refine Y.op (pc' := 3) (fun _ => X.aloadn rfl dL_settle_2) ?_
  refine Y.op (pc' := 4) (fun _ => X.iloadn rfl dL_settle_3) ?_
  exact Y.callW (As := [.int p1]) lk_L_103 rfl cal_X9_settle vir_X9_settle (Nat.le_of_ble_eq_true rfl) (Nat.le_of_ble_eq_true rfl) rfl rfl rfl rfl dL_settle_4 dL_settle_7 dL_settle_8 dL_settle_9 (by decide) dL_settle_15 dL_settle_16 wh_L_settle (fun _ e => m_X9_settle a0 p1 h _ _ e)
theorem m_L_settle {g : xG} (a0 : Nat) (p1 : Int32) (o : Nat) (h : xH) (cl : Bool) (r : Int32 × xH × Nat) (e : f_L_settle a0 p1 o h = some r) : XM g DL_settle [.ref a0, .int p1, .ref o] h cl (iW r) := by
  have q := y_L_settle (g := g) (h0 := h) (cl := cl) a0 p1 o h r e
  exact XM.ofH rfl rfl (Nat.le_of_ble_eq_true rfl) q.1.1 q.1.2.1 q.2
