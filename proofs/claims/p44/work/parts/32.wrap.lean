/-! the law's wrappers (by program) -/
def wc_L_text (E : String) : Option Int32 := if E = IAE then some (-2000000098) else none
def f_L_text (a0 : Nat) (p1 : Int32) (h : xH) : Option (Int32 × xH) := (vc h 9 a0 (f_X9_text a0 p1 h)).bind (wrp wc_L_text)
theorem wh_L_text (E : String) (c : Int32) (e : wc_L_text E = some c) : xHan DL_text 2 E c := by
  unfold wc_L_text at e
  split at e
  · rename_i q; subst q; cases e; exact ⟨[], [], 0, 5, 6, 33, 2, 1, 35, IAE, rfl, (fun z hz => nomatch hz), by decide, by decide, wx_33, wt_IAE, Nat.le_of_ble_eq_true rfl, Or.inl ⟨rfl, 2, rfl, dL_text_6⟩, dL_text_7, gdm 955 (by decide +kernel) rfl, dL_text_9⟩
  · cases e
theorem y_L_text {g : xG} {h0 : xH} (a0 : Nat) (p1 : Int32) (h : xH) : Y g DL_text h0 false iI (f_L_text a0 p1 h) 0 [some (.ref a0), some (.int p1), none] [] h := by
  unfold f_L_text
  refine Y.op (pc' := 1) (fun _ => X.aloadn rfl dL_text_0) ?_
  refine Y.op (pc' := 2) (fun _ => X.iloadn rfl dL_text_1) ?_
  exact Y.callW (As := [.int p1]) lk_L_30 rfl cal_X9_text vir_X9_text (Nat.le_of_ble_eq_true rfl) (Nat.le_of_ble_eq_true rfl) rfl rfl rfl rfl dL_text_2 dL_text_5 wh_L_text (fun _ e => m_X9_text a0 p1 h _ e)
theorem m_L_text {g : xG} (a0 : Nat) (p1 : Int32) (h : xH) (r : Int32 × xH) (e : f_L_text a0 p1 h = some r) : XM g DL_text [.ref a0, .int p1] h false (iI r) := by
  have q := y_L_text (g := g) (h0 := h) a0 p1 h r e
  exact XM.ofH rfl rfl (Nat.le_of_ble_eq_true rfl) q.1.1 q.1.2.1 q.2
def wc_L_told (E : String) : Option Int32 := if E = IAE then some (-2000000098) else none
def f_L_told (a0 : Nat) (p1 : Int32) (h : xH) : Option (Int32 × xH) := (vc h 9 a0 (f_X9_told a0 p1 h)).bind (wrp wc_L_told)
theorem wh_L_told (E : String) (c : Int32) (e : wc_L_told E = some c) : xHan DL_told 2 E c := by
  unfold wc_L_told at e
  split at e
  · rename_i q; subst q; cases e; exact ⟨[], [], 0, 5, 6, 33, 2, 1, 35, IAE, rfl, (fun z hz => nomatch hz), by decide, by decide, wx_33, wt_IAE, Nat.le_of_ble_eq_true rfl, Or.inl ⟨rfl, 2, rfl, dL_told_6⟩, dL_told_7, gdm 955 (by decide +kernel) rfl, dL_told_9⟩
  · cases e
theorem y_L_told {g : xG} {h0 : xH} (a0 : Nat) (p1 : Int32) (h : xH) : Y g DL_told h0 false iI (f_L_told a0 p1 h) 0 [some (.ref a0), some (.int p1), none] [] h := by
  unfold f_L_told
  refine Y.op (pc' := 1) (fun _ => X.aloadn rfl dL_told_0) ?_
  refine Y.op (pc' := 2) (fun _ => X.iloadn rfl dL_told_1) ?_
  exact Y.callW (As := [.int p1]) lk_L_36 rfl cal_X9_told vir_X9_told (Nat.le_of_ble_eq_true rfl) (Nat.le_of_ble_eq_true rfl) rfl rfl rfl rfl dL_told_2 dL_told_5 wh_L_told (fun _ e => m_X9_told a0 p1 h _ e)
theorem m_L_told {g : xG} (a0 : Nat) (p1 : Int32) (h : xH) (r : Int32 × xH) (e : f_L_told a0 p1 h = some r) : XM g DL_told [.ref a0, .int p1] h false (iI r) := by
  have q := y_L_told (g := g) (h0 := h) a0 p1 h r e
  exact XM.ofH rfl rfl (Nat.le_of_ble_eq_true rfl) q.1.1 q.1.2.1 q.2
def wc_L_partner (E : String) : Option Int32 := if E = NSE then some (-2000000096) else none
def f_L_partner (a0 : Nat) (p1 : Int32) (p2 : Int32) (h : xH) : Option (Int32 × xH) := (vc h 9 a0 (f_X9_partner a0 p1 p2 h)).bind (wrp wc_L_partner)
theorem wh_L_partner (E : String) (c : Int32) (e : wc_L_partner E = some c) : xHan DL_partner 3 E c := by
  unfold wc_L_partner at e
  split at e
  · rename_i q; subst q; cases e; exact ⟨[], [], 0, 6, 7, 43, 3, 1, 45, NSE, rfl, (fun z hz => nomatch hz), by decide, by decide, wx_43, wt_NSE, Nat.le_of_ble_eq_true rfl, Or.inl ⟨rfl, 3, rfl, dL_partner_7⟩, dL_partner_8, gdm 1007 (by decide +kernel) rfl, dL_partner_10⟩
  · cases e
theorem y_L_partner {g : xG} {h0 : xH} (a0 : Nat) (p1 : Int32) (p2 : Int32) (h : xH) : Y g DL_partner h0 false iI (f_L_partner a0 p1 p2 h) 0 [some (.ref a0), some (.int p1), some (.int p2), none] [] h := by
  unfold f_L_partner
  refine Y.op (pc' := 1) (fun _ => X.aloadn rfl dL_partner_0) ?_
  refine Y.op (pc' := 2) (fun _ => X.iloadn rfl dL_partner_1) ?_
  refine Y.op (pc' := 3) (fun _ => X.iloadn rfl dL_partner_2) ?_
  exact Y.callW (As := [.int p1, .int p2]) lk_L_39 rfl cal_X9_partner vir_X9_partner (Nat.le_of_ble_eq_true rfl) (Nat.le_of_ble_eq_true rfl) rfl rfl rfl rfl dL_partner_3 dL_partner_6 wh_L_partner (fun _ e => m_X9_partner a0 p1 p2 h _ e)
theorem m_L_partner {g : xG} (a0 : Nat) (p1 : Int32) (p2 : Int32) (h : xH) (r : Int32 × xH) (e : f_L_partner a0 p1 p2 h = some r) : XM g DL_partner [.ref a0, .int p1, .int p2] h false (iI r) := by
  have q := y_L_partner (g := g) (h0 := h) a0 p1 p2 h r e
  exact XM.ofH rfl rfl (Nat.le_of_ble_eq_true rfl) q.1.1 q.1.2.1 q.2
def wc_L_cost (E : String) : Option Int32 := if E = NSE then some (-2000000096) else none
def f_L_cost (a0 : Nat) (p1 : Int32) (p2 : Int32) (h : xH) : Option (Int32 × xH) := (vc h 9 a0 (f_X9_cost a0 p1 p2 h)).bind (wrp wc_L_cost)
theorem wh_L_cost (E : String) (c : Int32) (e : wc_L_cost E = some c) : xHan DL_cost 3 E c := by
  unfold wc_L_cost at e
  split at e
  · rename_i q; subst q; cases e; exact ⟨[], [], 0, 6, 7, 43, 3, 1, 45, NSE, rfl, (fun z hz => nomatch hz), by decide, by decide, wx_43, wt_NSE, Nat.le_of_ble_eq_true rfl, Or.inl ⟨rfl, 3, rfl, dL_cost_7⟩, dL_cost_8, gdm 1007 (by decide +kernel) rfl, dL_cost_10⟩
  · cases e
theorem y_L_cost {g : xG} {h0 : xH} (a0 : Nat) (p1 : Int32) (p2 : Int32) (h : xH) : Y g DL_cost h0 false iI (f_L_cost a0 p1 p2 h) 0 [some (.ref a0), some (.int p1), some (.int p2), none] [] h := by
  unfold f_L_cost
  refine Y.op (pc' := 1) (fun _ => X.aloadn rfl dL_cost_0) ?_
  refine Y.op (pc' := 2) (fun _ => X.iloadn rfl dL_cost_1) ?_
  refine Y.op (pc' := 3) (fun _ => X.iloadn rfl dL_cost_2) ?_
  exact Y.callW (As := [.int p1, .int p2]) lk_L_46 rfl cal_X9_cost vir_X9_cost (Nat.le_of_ble_eq_true rfl) (Nat.le_of_ble_eq_true rfl) rfl rfl rfl rfl dL_cost_3 dL_cost_6 wh_L_cost (fun _ e => m_X9_cost a0 p1 p2 h _ e)
theorem m_L_cost {g : xG} (a0 : Nat) (p1 : Int32) (p2 : Int32) (h : xH) (r : Int32 × xH) (e : f_L_cost a0 p1 p2 h = some r) : XM g DL_cost [.ref a0, .int p1, .int p2] h false (iI r) := by
  have q := y_L_cost (g := g) (h0 := h) a0 p1 p2 h r e
  exact XM.ofH rfl rfl (Nat.le_of_ble_eq_true rfl) q.1.1 q.1.2.1 q.2
def wc_L_fits (E : String) : Option Int32 := if E = NSE then some (-2000000096) else none
def f_L_fits (a0 : Nat) (p1 : Int32) (p2 : Int32) (h : xH) : Option (Int32 × xH) := (vc h 9 a0 (f_X9_fits a0 p1 p2 h)).bind (wrp wc_L_fits)
theorem wh_L_fits (E : String) (c : Int32) (e : wc_L_fits E = some c) : xHan DL_fits 3 E c := by
  unfold wc_L_fits at e
  split at e
  · rename_i q; subst q; cases e; exact ⟨[], [], 0, 6, 7, 43, 3, 1, 45, NSE, rfl, (fun z hz => nomatch hz), by decide, by decide, wx_43, wt_NSE, Nat.le_of_ble_eq_true rfl, Or.inl ⟨rfl, 3, rfl, dL_fits_7⟩, dL_fits_8, gdm 1007 (by decide +kernel) rfl, dL_fits_10⟩
  · cases e
theorem y_L_fits {g : xG} {h0 : xH} (a0 : Nat) (p1 : Int32) (p2 : Int32) (h : xH) : Y g DL_fits h0 false iI (f_L_fits a0 p1 p2 h) 0 [some (.ref a0), some (.int p1), some (.int p2), none] [] h := by
  unfold f_L_fits
  refine Y.op (pc' := 1) (fun _ => X.aloadn rfl dL_fits_0) ?_
  refine Y.op (pc' := 2) (fun _ => X.iloadn rfl dL_fits_1) ?_
  refine Y.op (pc' := 3) (fun _ => X.iloadn rfl dL_fits_2) ?_
  exact Y.callW (As := [.int p1, .int p2]) lk_L_49 rfl cal_X9_fits vir_X9_fits (Nat.le_of_ble_eq_true rfl) (Nat.le_of_ble_eq_true rfl) rfl rfl rfl rfl dL_fits_3 dL_fits_6 wh_L_fits (fun _ e => m_X9_fits a0 p1 p2 h _ e)
theorem m_L_fits {g : xG} (a0 : Nat) (p1 : Int32) (p2 : Int32) (h : xH) (r : Int32 × xH) (e : f_L_fits a0 p1 p2 h = some r) : XM g DL_fits [.ref a0, .int p1, .int p2] h false (iI r) := by
  have q := y_L_fits (g := g) (h0 := h) a0 p1 p2 h r e
  exact XM.ofH rfl rfl (Nat.le_of_ble_eq_true rfl) q.1.1 q.1.2.1 q.2
def wc_L_wayAt (E : String) : Option Int32 := if E = NSE then some (-2000000096) else none
def f_L_wayAt (a0 : Nat) (p1 : Int32) (h : xH) : Option (Int32 × xH) := (vc h 9 a0 (f_X9_wayAt a0 p1 h)).bind (wrp wc_L_wayAt)
theorem wh_L_wayAt (E : String) (c : Int32) (e : wc_L_wayAt E = some c) : xHan DL_wayAt 2 E c := by
  unfold wc_L_wayAt at e
  split at e
  · rename_i q; subst q; cases e; exact ⟨[], [], 0, 5, 6, 43, 2, 1, 45, NSE, rfl, (fun z hz => nomatch hz), by decide, by decide, wx_43, wt_NSE, Nat.le_of_ble_eq_true rfl, Or.inl ⟨rfl, 2, rfl, dL_wayAt_6⟩, dL_wayAt_7, gdm 1007 (by decide +kernel) rfl, dL_wayAt_9⟩
  · cases e
theorem y_L_wayAt {g : xG} {h0 : xH} (a0 : Nat) (p1 : Int32) (h : xH) : Y g DL_wayAt h0 false iI (f_L_wayAt a0 p1 h) 0 [some (.ref a0), some (.int p1), none] [] h := by
  unfold f_L_wayAt
  refine Y.op (pc' := 1) (fun _ => X.aloadn rfl dL_wayAt_0) ?_
  refine Y.op (pc' := 2) (fun _ => X.iloadn rfl dL_wayAt_1) ?_
  exact Y.callW (As := [.int p1]) lk_L_52 rfl cal_X9_wayAt vir_X9_wayAt (Nat.le_of_ble_eq_true rfl) (Nat.le_of_ble_eq_true rfl) rfl rfl rfl rfl dL_wayAt_2 dL_wayAt_5 wh_L_wayAt (fun _ e => m_X9_wayAt a0 p1 h _ e)
theorem m_L_wayAt {g : xG} (a0 : Nat) (p1 : Int32) (h : xH) (r : Int32 × xH) (e : f_L_wayAt a0 p1 h = some r) : XM g DL_wayAt [.ref a0, .int p1] h false (iI r) := by
  have q := y_L_wayAt (g := g) (h0 := h) a0 p1 h r e
  exact XM.ofH rfl rfl (Nat.le_of_ble_eq_true rfl) q.1.1 q.1.2.1 q.2
def wc_L_wayFrom (E : String) : Option Int32 := if E = NSE then some (-2000000096) else if E = IAE then some (-2000000098) else none
def f_L_wayFrom (a0 : Nat) (p1 : Int32) (p2 : Int32) (h : xH) : Option (Int32 × xH) := (vc h 9 a0 (f_X9_wayFrom a0 p1 p2 h)).bind (wrp wc_L_wayFrom)
theorem wh_L_wayFrom (E : String) (c : Int32) (e : wc_L_wayFrom E = some c) : xHan DL_wayFrom 3 E c := by
  unfold wc_L_wayFrom at e
  split at e
  · rename_i q; subst q; cases e; exact ⟨[], [(0, 6, 11, 33)], 0, 6, 7, 43, 3, 1, 45, NSE, rfl, (fun z hz => nomatch hz), by decide, by decide, wx_43, wt_NSE, Nat.le_of_ble_eq_true rfl, Or.inl ⟨rfl, 3, rfl, dL_wayFrom_7⟩, dL_wayFrom_8, gdm 1007 (by decide +kernel) rfl, dL_wayFrom_10⟩
  · split at e
    · rename_i q; subst q; cases e; exact ⟨[(0, 6, 7, 43)], [], 0, 6, 11, 33, 3, 1, 35, IAE, rfl, (fun z hz => by rw [List.mem_singleton.mp hz]; exact ⟨by decide, wx_43, rfl⟩), by decide, by decide, wx_33, wt_IAE, Nat.le_of_ble_eq_true rfl, Or.inl ⟨rfl, 3, rfl, dL_wayFrom_11⟩, dL_wayFrom_12, gdm 955 (by decide +kernel) rfl, dL_wayFrom_14⟩
    · cases e
theorem y_L_wayFrom {g : xG} {h0 : xH} (a0 : Nat) (p1 : Int32) (p2 : Int32) (h : xH) : Y g DL_wayFrom h0 false iI (f_L_wayFrom a0 p1 p2 h) 0 [some (.ref a0), some (.int p1), some (.int p2), none] [] h := by
  unfold f_L_wayFrom
  refine Y.op (pc' := 1) (fun _ => X.aloadn rfl dL_wayFrom_0) ?_
  refine Y.op (pc' := 2) (fun _ => X.iloadn rfl dL_wayFrom_1) ?_
  refine Y.op (pc' := 3) (fun _ => X.iloadn rfl dL_wayFrom_2) ?_
  exact Y.callW (As := [.int p1, .int p2]) lk_L_55 rfl cal_X9_wayFrom vir_X9_wayFrom (Nat.le_of_ble_eq_true rfl) (Nat.le_of_ble_eq_true rfl) rfl rfl rfl rfl dL_wayFrom_3 dL_wayFrom_6 wh_L_wayFrom (fun _ e => m_X9_wayFrom a0 p1 p2 h _ e)
theorem m_L_wayFrom {g : xG} (a0 : Nat) (p1 : Int32) (p2 : Int32) (h : xH) (r : Int32 × xH) (e : f_L_wayFrom a0 p1 p2 h = some r) : XM g DL_wayFrom [.ref a0, .int p1, .int p2] h false (iI r) := by
  have q := y_L_wayFrom (g := g) (h0 := h) a0 p1 p2 h r e
  exact XM.ofH rfl rfl (Nat.le_of_ble_eq_true rfl) q.1.1 q.1.2.1 q.2
def wc_L_phases (E : String) : Option Int32 := if E = IAE then some (-2000000098) else none
def f_L_phases (a0 : Nat) (p1 : Int32) (h : xH) : Option (Int32 × xH) := (vc h 9 a0 (f_X9_phases a0 p1 h)).bind (wrp wc_L_phases)
theorem wh_L_phases (E : String) (c : Int32) (e : wc_L_phases E = some c) : xHan DL_phases 2 E c := by
  unfold wc_L_phases at e
  split at e
  · rename_i q; subst q; cases e; exact ⟨[], [], 0, 5, 6, 33, 2, 1, 35, IAE, rfl, (fun z hz => nomatch hz), by decide, by decide, wx_33, wt_IAE, Nat.le_of_ble_eq_true rfl, Or.inl ⟨rfl, 2, rfl, dL_phases_6⟩, dL_phases_7, gdm 955 (by decide +kernel) rfl, dL_phases_9⟩
  · cases e
theorem y_L_phases {g : xG} {h0 : xH} (a0 : Nat) (p1 : Int32) (h : xH) : Y g DL_phases h0 false iI (f_L_phases a0 p1 h) 0 [some (.ref a0), some (.int p1), none] [] h := by
  unfold f_L_phases
  refine Y.op (pc' := 1) (fun _ => X.aloadn rfl dL_phases_0) ?_
  refine Y.op (pc' := 2) (fun _ => X.iloadn rfl dL_phases_1) ?_
  exact Y.callW (As := [.int p1]) lk_L_58 rfl cal_X9_phases vir_X9_phases (Nat.le_of_ble_eq_true rfl) (Nat.le_of_ble_eq_true rfl) rfl rfl rfl rfl dL_phases_2 dL_phases_5 wh_L_phases (fun _ e => m_X9_phases a0 p1 h _ e)
theorem m_L_phases {g : xG} (a0 : Nat) (p1 : Int32) (h : xH) (r : Int32 × xH) (e : f_L_phases a0 p1 h = some r) : XM g DL_phases [.ref a0, .int p1] h false (iI r) := by
  have q := y_L_phases (g := g) (h0 := h) a0 p1 h r e
  exact XM.ofH rfl rfl (Nat.le_of_ble_eq_true rfl) q.1.1 q.1.2.1 q.2
def wc_L_phased (E : String) : Option Int32 := if E = NSE then some (-2000000096) else none
def f_L_phased (a0 : Nat) (p1 : Int32) (h : xH) : Option (Int32 × xH) := (vc h 9 a0 (f_X9_phased a0 p1 h)).bind (wrp wc_L_phased)
theorem wh_L_phased (E : String) (c : Int32) (e : wc_L_phased E = some c) : xHan DL_phased 2 E c := by
  unfold wc_L_phased at e
  split at e
  · rename_i q; subst q; cases e; exact ⟨[], [], 0, 5, 6, 43, 2, 1, 45, NSE, rfl, (fun z hz => nomatch hz), by decide, by decide, wx_43, wt_NSE, Nat.le_of_ble_eq_true rfl, Or.inl ⟨rfl, 2, rfl, dL_phased_6⟩, dL_phased_7, gdm 1007 (by decide +kernel) rfl, dL_phased_9⟩
  · cases e
theorem y_L_phased {g : xG} {h0 : xH} (a0 : Nat) (p1 : Int32) (h : xH) : Y g DL_phased h0 false iI (f_L_phased a0 p1 h) 0 [some (.ref a0), some (.int p1), none] [] h := by
  unfold f_L_phased
  refine Y.op (pc' := 1) (fun _ => X.aloadn rfl dL_phased_0) ?_
  refine Y.op (pc' := 2) (fun _ => X.iloadn rfl dL_phased_1) ?_
  exact Y.callW (As := [.int p1]) lk_L_61 rfl cal_X9_phased vir_X9_phased (Nat.le_of_ble_eq_true rfl) (Nat.le_of_ble_eq_true rfl) rfl rfl rfl rfl dL_phased_2 dL_phased_5 wh_L_phased (fun _ e => m_X9_phased a0 p1 h _ e)
theorem m_L_phased {g : xG} (a0 : Nat) (p1 : Int32) (h : xH) (r : Int32 × xH) (e : f_L_phased a0 p1 h = some r) : XM g DL_phased [.ref a0, .int p1] h false (iI r) := by
  have q := y_L_phased (g := g) (h0 := h) a0 p1 h r e
  exact XM.ofH rfl rfl (Nat.le_of_ble_eq_true rfl) q.1.1 q.1.2.1 q.2
def wc_L_reached (E : String) : Option Int32 := if E = NSE then some (-2000000096) else none
def f_L_reached (a0 : Nat) (p1 : Int32) (h : xH) : Option (Int32 × xH) := (vc h 9 a0 (f_X9_reached a0 p1 h)).bind (wrp wc_L_reached)
theorem wh_L_reached (E : String) (c : Int32) (e : wc_L_reached E = some c) : xHan DL_reached 2 E c := by
  unfold wc_L_reached at e
  split at e
  · rename_i q; subst q; cases e; exact ⟨[], [], 0, 5, 6, 43, 2, 1, 45, NSE, rfl, (fun z hz => nomatch hz), by decide, by decide, wx_43, wt_NSE, Nat.le_of_ble_eq_true rfl, Or.inl ⟨rfl, 2, rfl, dL_reached_6⟩, dL_reached_7, gdm 1007 (by decide +kernel) rfl, dL_reached_9⟩
  · cases e
theorem y_L_reached {g : xG} {h0 : xH} (a0 : Nat) (p1 : Int32) (h : xH) : Y g DL_reached h0 false iI (f_L_reached a0 p1 h) 0 [some (.ref a0), some (.int p1), none] [] h := by
  unfold f_L_reached
  refine Y.op (pc' := 1) (fun _ => X.aloadn rfl dL_reached_0) ?_
  refine Y.op (pc' := 2) (fun _ => X.iloadn rfl dL_reached_1) ?_
  exact Y.callW (As := [.int p1]) lk_L_64 rfl cal_X9_reached vir_X9_reached (Nat.le_of_ble_eq_true rfl) (Nat.le_of_ble_eq_true rfl) rfl rfl rfl rfl dL_reached_2 dL_reached_5 wh_L_reached (fun _ e => m_X9_reached a0 p1 h _ e)
theorem m_L_reached {g : xG} (a0 : Nat) (p1 : Int32) (h : xH) (r : Int32 × xH) (e : f_L_reached a0 p1 h = some r) : XM g DL_reached [.ref a0, .int p1] h false (iI r) := by
  have q := y_L_reached (g := g) (h0 := h) a0 p1 h r e
  exact XM.ofH rfl rfl (Nat.le_of_ble_eq_true rfl) q.1.1 q.1.2.1 q.2
def wc_L_cover (E : String) : Option Int32 := if E = NSE then some (-2000000096) else none
def f_L_cover (a0 : Nat) (p1 : Int32) (h : xH) : Option (Int32 × xH) := (vc h 9 a0 (f_X9_cover a0 p1 h)).bind (wrp wc_L_cover)
theorem wh_L_cover (E : String) (c : Int32) (e : wc_L_cover E = some c) : xHan DL_cover 2 E c := by
  unfold wc_L_cover at e
  split at e
  · rename_i q; subst q; cases e; exact ⟨[], [], 0, 5, 6, 43, 2, 1, 45, NSE, rfl, (fun z hz => nomatch hz), by decide, by decide, wx_43, wt_NSE, Nat.le_of_ble_eq_true rfl, Or.inl ⟨rfl, 2, rfl, dL_cover_6⟩, dL_cover_7, gdm 1007 (by decide +kernel) rfl, dL_cover_9⟩
  · cases e
theorem y_L_cover {g : xG} {h0 : xH} (a0 : Nat) (p1 : Int32) (h : xH) : Y g DL_cover h0 false iI (f_L_cover a0 p1 h) 0 [some (.ref a0), some (.int p1), none] [] h := by
  unfold f_L_cover
  refine Y.op (pc' := 1) (fun _ => X.aloadn rfl dL_cover_0) ?_
  refine Y.op (pc' := 2) (fun _ => X.iloadn rfl dL_cover_1) ?_
  exact Y.callW (As := [.int p1]) lk_L_67 rfl cal_X9_cover vir_X9_cover (Nat.le_of_ble_eq_true rfl) (Nat.le_of_ble_eq_true rfl) rfl rfl rfl rfl dL_cover_2 dL_cover_5 wh_L_cover (fun _ e => m_X9_cover a0 p1 h _ e)
theorem m_L_cover {g : xG} (a0 : Nat) (p1 : Int32) (h : xH) (r : Int32 × xH) (e : f_L_cover a0 p1 h = some r) : XM g DL_cover [.ref a0, .int p1] h false (iI r) := by
  have q := y_L_cover (g := g) (h0 := h) a0 p1 h r e
  exact XM.ofH rfl rfl (Nat.le_of_ble_eq_true rfl) q.1.1 q.1.2.1 q.2
def wc_L_of (E : String) : Option Int32 := if E = NSE then some (-2000000096) else if E = IAE then some (-2000000098) else none
def f_L_of (a0 : Nat) (p1 : Int32) (p2 : Int32) (p3 : Int32) (h : xH) : Option (Int32 × xH) := (vc h 9 a0 (f_X9_of a0 p1 p2 p3 h)).bind (wrp wc_L_of)
theorem wh_L_of (E : String) (c : Int32) (e : wc_L_of E = some c) : xHan DL_of 4 E c := by
  unfold wc_L_of at e
  split at e
  · rename_i q; subst q; cases e; exact ⟨[], [(0, 7, 13, 33)], 0, 7, 8, 43, 4, 2, 45, NSE, rfl, (fun z hz => nomatch hz), by decide, by decide, wx_43, wt_NSE, Nat.le_of_ble_eq_true rfl, Or.inr ⟨rfl, dL_of_8⟩, dL_of_10, gdm 1007 (by decide +kernel) rfl, dL_of_12⟩
  · split at e
    · rename_i q; subst q; cases e; exact ⟨[(0, 7, 8, 43)], [], 0, 7, 13, 33, 4, 2, 35, IAE, rfl, (fun z hz => by rw [List.mem_singleton.mp hz]; exact ⟨by decide, wx_43, rfl⟩), by decide, by decide, wx_33, wt_IAE, Nat.le_of_ble_eq_true rfl, Or.inr ⟨rfl, dL_of_13⟩, dL_of_15, gdm 955 (by decide +kernel) rfl, dL_of_17⟩
    · cases e
theorem y_L_of {g : xG} {h0 : xH} (a0 : Nat) (p1 : Int32) (p2 : Int32) (p3 : Int32) (h : xH) : Y g DL_of h0 false iI (f_L_of a0 p1 p2 p3 h) 0 [some (.ref a0), some (.int p1), some (.int p2), some (.int p3), none] [] h := by
  unfold f_L_of
  refine Y.op (pc' := 1) (fun _ => X.aloadn rfl dL_of_0) ?_
  refine Y.op (pc' := 2) (fun _ => X.iloadn rfl dL_of_1) ?_
  refine Y.op (pc' := 3) (fun _ => X.iloadn rfl dL_of_2) ?_
  refine Y.op (pc' := 4) (fun _ => X.iloadn rfl dL_of_3) ?_
  exact Y.callW (As := [.int p1, .int p2, .int p3]) lk_L_70 rfl cal_X9_of vir_X9_of (Nat.le_of_ble_eq_true rfl) (Nat.le_of_ble_eq_true rfl) rfl rfl rfl rfl dL_of_4 dL_of_7 wh_L_of (fun _ e => m_X9_of a0 p1 p2 p3 h _ e)
theorem m_L_of {g : xG} (a0 : Nat) (p1 : Int32) (p2 : Int32) (p3 : Int32) (h : xH) (r : Int32 × xH) (e : f_L_of a0 p1 p2 p3 h = some r) : XM g DL_of [.ref a0, .int p1, .int p2, .int p3] h false (iI r) := by
  have q := y_L_of (g := g) (h0 := h) a0 p1 p2 p3 h r e
  exact XM.ofH rfl rfl (Nat.le_of_ble_eq_true rfl) q.1.1 q.1.2.1 q.2
def wc_L_fit (E : String) : Option Int32 := if E = NSE then some (-2000000096) else none
def f_L_fit (a0 : Nat) (p1 : Int32) (p2 : Int32) (h : xH) : Option (Int32 × xH) := (vc h 9 a0 (f_X9_fit a0 p1 p2 h)).bind (wrp wc_L_fit)
theorem wh_L_fit (E : String) (c : Int32) (e : wc_L_fit E = some c) : xHan DL_fit 3 E c := by
  unfold wc_L_fit at e
  split at e
  · rename_i q; subst q; cases e; exact ⟨[], [], 0, 6, 7, 43, 3, 1, 45, NSE, rfl, (fun z hz => nomatch hz), by decide, by decide, wx_43, wt_NSE, Nat.le_of_ble_eq_true rfl, Or.inl ⟨rfl, 3, rfl, dL_fit_7⟩, dL_fit_8, gdm 1007 (by decide +kernel) rfl, dL_fit_10⟩
  · cases e
theorem y_L_fit {g : xG} {h0 : xH} (a0 : Nat) (p1 : Int32) (p2 : Int32) (h : xH) : Y g DL_fit h0 false iI (f_L_fit a0 p1 p2 h) 0 [some (.ref a0), some (.int p1), some (.int p2), none] [] h := by
  unfold f_L_fit
  refine Y.op (pc' := 1) (fun _ => X.aloadn rfl dL_fit_0) ?_
  refine Y.op (pc' := 2) (fun _ => X.iloadn rfl dL_fit_1) ?_
  refine Y.op (pc' := 3) (fun _ => X.iloadn rfl dL_fit_2) ?_
  exact Y.callW (As := [.int p1, .int p2]) lk_L_74 rfl cal_X9_fit vir_X9_fit (Nat.le_of_ble_eq_true rfl) (Nat.le_of_ble_eq_true rfl) rfl rfl rfl rfl dL_fit_3 dL_fit_6 wh_L_fit (fun _ e => m_X9_fit a0 p1 p2 h _ e)
theorem m_L_fit {g : xG} (a0 : Nat) (p1 : Int32) (p2 : Int32) (h : xH) (r : Int32 × xH) (e : f_L_fit a0 p1 p2 h = some r) : XM g DL_fit [.ref a0, .int p1, .int p2] h false (iI r) := by
  have q := y_L_fit (g := g) (h0 := h) a0 p1 p2 h r e
  exact XM.ofH rfl rfl (Nat.le_of_ble_eq_true rfl) q.1.1 q.1.2.1 q.2
def wc_L_fitMany (E : String) : Option Int32 := if E = IAE then some (-2000000098) else none
def f_L_fitMany (a0 : Nat) (p1 : Int32) (h : xH) : Option (Int32 × xH) := (vc h 9 a0 (f_X9_fitMany a0 p1 h)).bind (wrp wc_L_fitMany)
theorem wh_L_fitMany (E : String) (c : Int32) (e : wc_L_fitMany E = some c) : xHan DL_fitMany 2 E c := by
  unfold wc_L_fitMany at e
  split at e
  · rename_i q; subst q; cases e; exact ⟨[], [], 0, 5, 6, 33, 2, 1, 35, IAE, rfl, (fun z hz => nomatch hz), by decide, by decide, wx_33, wt_IAE, Nat.le_of_ble_eq_true rfl, Or.inl ⟨rfl, 2, rfl, dL_fitMany_6⟩, dL_fitMany_7, gdm 955 (by decide +kernel) rfl, dL_fitMany_9⟩
  · cases e
theorem y_L_fitMany {g : xG} {h0 : xH} (a0 : Nat) (p1 : Int32) (h : xH) : Y g DL_fitMany h0 false iI (f_L_fitMany a0 p1 h) 0 [some (.ref a0), some (.int p1), none] [] h := by
  unfold f_L_fitMany
  refine Y.op (pc' := 1) (fun _ => X.aloadn rfl dL_fitMany_0) ?_
  refine Y.op (pc' := 2) (fun _ => X.iloadn rfl dL_fitMany_1) ?_
  exact Y.callW (As := [.int p1]) lk_L_77 rfl cal_X9_fitMany vir_X9_fitMany (Nat.le_of_ble_eq_true rfl) (Nat.le_of_ble_eq_true rfl) rfl rfl rfl rfl dL_fitMany_2 dL_fitMany_5 wh_L_fitMany (fun _ e => m_X9_fitMany a0 p1 h _ e)
theorem m_L_fitMany {g : xG} (a0 : Nat) (p1 : Int32) (h : xH) (r : Int32 × xH) (e : f_L_fitMany a0 p1 h = some r) : XM g DL_fitMany [.ref a0, .int p1] h false (iI r) := by
  have q := y_L_fitMany (g := g) (h0 := h) a0 p1 h r e
  exact XM.ofH rfl rfl (Nat.le_of_ble_eq_true rfl) q.1.1 q.1.2.1 q.2
def wc_L_lack (E : String) : Option Int32 := if E = IAE then some (-2000000098) else none
def f_L_lack (a0 : Nat) (p1 : Int32) (h : xH) : Option (Int32 × xH) := (vc h 9 a0 (f_X9_lack a0 p1 h)).bind (wrp wc_L_lack)
theorem wh_L_lack (E : String) (c : Int32) (e : wc_L_lack E = some c) : xHan DL_lack 2 E c := by
  unfold wc_L_lack at e
  split at e
  · rename_i q; subst q; cases e; exact ⟨[], [], 0, 5, 6, 33, 2, 1, 35, IAE, rfl, (fun z hz => nomatch hz), by decide, by decide, wx_33, wt_IAE, Nat.le_of_ble_eq_true rfl, Or.inl ⟨rfl, 2, rfl, dL_lack_6⟩, dL_lack_7, gdm 955 (by decide +kernel) rfl, dL_lack_9⟩
  · cases e
theorem y_L_lack {g : xG} {h0 : xH} (a0 : Nat) (p1 : Int32) (h : xH) : Y g DL_lack h0 false iI (f_L_lack a0 p1 h) 0 [some (.ref a0), some (.int p1), none] [] h := by
  unfold f_L_lack
  refine Y.op (pc' := 1) (fun _ => X.aloadn rfl dL_lack_0) ?_
  refine Y.op (pc' := 2) (fun _ => X.iloadn rfl dL_lack_1) ?_
  exact Y.callW (As := [.int p1]) lk_L_80 rfl cal_X9_lack vir_X9_lack (Nat.le_of_ble_eq_true rfl) (Nat.le_of_ble_eq_true rfl) rfl rfl rfl rfl dL_lack_2 dL_lack_5 wh_L_lack (fun _ e => m_X9_lack a0 p1 h _ e)
theorem m_L_lack {g : xG} (a0 : Nat) (p1 : Int32) (h : xH) (r : Int32 × xH) (e : f_L_lack a0 p1 h = some r) : XM g DL_lack [.ref a0, .int p1] h false (iI r) := by
  have q := y_L_lack (g := g) (h0 := h) a0 p1 h r e
  exact XM.ofH rfl rfl (Nat.le_of_ble_eq_true rfl) q.1.1 q.1.2.1 q.2
def wc_L_hall (E : String) : Option Int32 := if E = IAE then some (-2000000098) else none
def f_L_hall (a0 : Nat) (p1 : Int32) (h : xH) : Option (Int32 × xH) := (vc h 9 a0 (f_X9_hall a0 p1 h)).bind (wrp wc_L_hall)
theorem wh_L_hall (E : String) (c : Int32) (e : wc_L_hall E = some c) : xHan DL_hall 2 E c := by
  unfold wc_L_hall at e
  split at e
  · rename_i q; subst q; cases e; exact ⟨[], [], 0, 5, 6, 33, 2, 1, 35, IAE, rfl, (fun z hz => nomatch hz), by decide, by decide, wx_33, wt_IAE, Nat.le_of_ble_eq_true rfl, Or.inl ⟨rfl, 2, rfl, dL_hall_6⟩, dL_hall_7, gdm 955 (by decide +kernel) rfl, dL_hall_9⟩
  · cases e
theorem y_L_hall {g : xG} {h0 : xH} (a0 : Nat) (p1 : Int32) (h : xH) : Y g DL_hall h0 false iI (f_L_hall a0 p1 h) 0 [some (.ref a0), some (.int p1), none] [] h := by
  unfold f_L_hall
  refine Y.op (pc' := 1) (fun _ => X.aloadn rfl dL_hall_0) ?_
  refine Y.op (pc' := 2) (fun _ => X.iloadn rfl dL_hall_1) ?_
  exact Y.callW (As := [.int p1]) lk_L_83 rfl cal_X9_hall vir_X9_hall (Nat.le_of_ble_eq_true rfl) (Nat.le_of_ble_eq_true rfl) rfl rfl rfl rfl dL_hall_2 dL_hall_5 wh_L_hall (fun _ e => m_X9_hall a0 p1 h _ e)
theorem m_L_hall {g : xG} (a0 : Nat) (p1 : Int32) (h : xH) (r : Int32 × xH) (e : f_L_hall a0 p1 h = some r) : XM g DL_hall [.ref a0, .int p1] h false (iI r) := by
  have q := y_L_hall (g := g) (h0 := h) a0 p1 h r e
  exact XM.ofH rfl rfl (Nat.le_of_ble_eq_true rfl) q.1.1 q.1.2.1 q.2
def wc_L_cheap (E : String) : Option Int32 := if E = IAE then some (-2000000098) else none
def f_L_cheap (a0 : Nat) (p1 : Int32) (h : xH) : Option (Int32 × xH) := (vc h 9 a0 (f_X9_cheap a0 p1 h)).bind (wrp wc_L_cheap)
theorem wh_L_cheap (E : String) (c : Int32) (e : wc_L_cheap E = some c) : xHan DL_cheap 2 E c := by
  unfold wc_L_cheap at e
  split at e
  · rename_i q; subst q; cases e; exact ⟨[], [], 0, 5, 6, 33, 2, 1, 35, IAE, rfl, (fun z hz => nomatch hz), by decide, by decide, wx_33, wt_IAE, Nat.le_of_ble_eq_true rfl, Or.inl ⟨rfl, 2, rfl, dL_cheap_6⟩, dL_cheap_7, gdm 955 (by decide +kernel) rfl, dL_cheap_9⟩
  · cases e
theorem y_L_cheap {g : xG} {h0 : xH} (a0 : Nat) (p1 : Int32) (h : xH) : Y g DL_cheap h0 false iI (f_L_cheap a0 p1 h) 0 [some (.ref a0), some (.int p1), none] [] h := by
  unfold f_L_cheap
  refine Y.op (pc' := 1) (fun _ => X.aloadn rfl dL_cheap_0) ?_
  refine Y.op (pc' := 2) (fun _ => X.iloadn rfl dL_cheap_1) ?_
  exact Y.callW (As := [.int p1]) lk_L_86 rfl cal_X9_cheap vir_X9_cheap (Nat.le_of_ble_eq_true rfl) (Nat.le_of_ble_eq_true rfl) rfl rfl rfl rfl dL_cheap_2 dL_cheap_5 wh_L_cheap (fun _ e => m_X9_cheap a0 p1 h _ e)
theorem m_L_cheap {g : xG} (a0 : Nat) (p1 : Int32) (h : xH) (r : Int32 × xH) (e : f_L_cheap a0 p1 h = some r) : XM g DL_cheap [.ref a0, .int p1] h false (iI r) := by
  have q := y_L_cheap (g := g) (h0 := h) a0 p1 h r e
  exact XM.ofH rfl rfl (Nat.le_of_ble_eq_true rfl) q.1.1 q.1.2.1 q.2
def wc_L_more (E : String) : Option Int32 := if E = IAE then some (-2000000098) else none
def f_L_more (a0 : Nat) (p1 : Int32) (h : xH) : Option (Int32 × xH) := (vc h 9 a0 (f_X9_more a0 p1 h)).bind (wrp wc_L_more)
theorem wh_L_more (E : String) (c : Int32) (e : wc_L_more E = some c) : xHan DL_more 2 E c := by
  unfold wc_L_more at e
  split at e
  · rename_i q; subst q; cases e; exact ⟨[], [], 0, 5, 6, 33, 2, 1, 35, IAE, rfl, (fun z hz => nomatch hz), by decide, by decide, wx_33, wt_IAE, Nat.le_of_ble_eq_true rfl, Or.inl ⟨rfl, 2, rfl, dL_more_6⟩, dL_more_7, gdm 955 (by decide +kernel) rfl, dL_more_9⟩
  · cases e
theorem y_L_more {g : xG} {h0 : xH} (a0 : Nat) (p1 : Int32) (h : xH) : Y g DL_more h0 false iI (f_L_more a0 p1 h) 0 [some (.ref a0), some (.int p1), none] [] h := by
  unfold f_L_more
  refine Y.op (pc' := 1) (fun _ => X.aloadn rfl dL_more_0) ?_
  refine Y.op (pc' := 2) (fun _ => X.iloadn rfl dL_more_1) ?_
  exact Y.callW (As := [.int p1]) lk_L_92 rfl cal_X9_more vir_X9_more (Nat.le_of_ble_eq_true rfl) (Nat.le_of_ble_eq_true rfl) rfl rfl rfl rfl dL_more_2 dL_more_5 wh_L_more (fun _ e => m_X9_more a0 p1 h _ e)
theorem m_L_more {g : xG} (a0 : Nat) (p1 : Int32) (h : xH) (r : Int32 × xH) (e : f_L_more a0 p1 h = some r) : XM g DL_more [.ref a0, .int p1] h false (iI r) := by
  have q := y_L_more (g := g) (h0 := h) a0 p1 h r e
  exact XM.ofH rfl rfl (Nat.le_of_ble_eq_true rfl) q.1.1 q.1.2.1 q.2
def wc_L_fewest (E : String) : Option Int32 := if E = IAE then some (-2000000098) else none
def f_L_fewest (a0 : Nat) (p1 : Int32) (h : xH) : Option (Int32 × xH) := (vc h 9 a0 (f_X9_fewest a0 p1 h)).bind (wrp wc_L_fewest)
theorem wh_L_fewest (E : String) (c : Int32) (e : wc_L_fewest E = some c) : xHan DL_fewest 2 E c := by
  unfold wc_L_fewest at e
  split at e
  · rename_i q; subst q; cases e; exact ⟨[], [], 0, 5, 6, 33, 2, 1, 35, IAE, rfl, (fun z hz => nomatch hz), by decide, by decide, wx_33, wt_IAE, Nat.le_of_ble_eq_true rfl, Or.inl ⟨rfl, 2, rfl, dL_fewest_6⟩, dL_fewest_7, gdm 955 (by decide +kernel) rfl, dL_fewest_9⟩
  · cases e
theorem y_L_fewest {g : xG} {h0 : xH} (a0 : Nat) (p1 : Int32) (h : xH) : Y g DL_fewest h0 false iI (f_L_fewest a0 p1 h) 0 [some (.ref a0), some (.int p1), none] [] h := by
  unfold f_L_fewest
  refine Y.op (pc' := 1) (fun _ => X.aloadn rfl dL_fewest_0) ?_
  refine Y.op (pc' := 2) (fun _ => X.iloadn rfl dL_fewest_1) ?_
  exact Y.callW (As := [.int p1]) lk_L_95 rfl cal_X9_fewest vir_X9_fewest (Nat.le_of_ble_eq_true rfl) (Nat.le_of_ble_eq_true rfl) rfl rfl rfl rfl dL_fewest_2 dL_fewest_5 wh_L_fewest (fun _ e => m_X9_fewest a0 p1 h _ e)
theorem m_L_fewest {g : xG} (a0 : Nat) (p1 : Int32) (h : xH) (r : Int32 × xH) (e : f_L_fewest a0 p1 h = some r) : XM g DL_fewest [.ref a0, .int p1] h false (iI r) := by
  have q := y_L_fewest (g := g) (h0 := h) a0 p1 h r e
  exact XM.ofH rfl rfl (Nat.le_of_ble_eq_true rfl) q.1.1 q.1.2.1 q.2
def wc_L_chosen (E : String) : Option Int32 := if E = IAE then some (-2000000098) else none
def f_L_chosen (a0 : Nat) (p1 : Int32) (h : xH) : Option (Int32 × xH) := (vc h 9 a0 (f_X9_chosen a0 p1 h)).bind (wrp wc_L_chosen)
theorem wh_L_chosen (E : String) (c : Int32) (e : wc_L_chosen E = some c) : xHan DL_chosen 2 E c := by
  unfold wc_L_chosen at e
  split at e
  · rename_i q; subst q; cases e; exact ⟨[], [], 0, 5, 6, 33, 2, 1, 35, IAE, rfl, (fun z hz => nomatch hz), by decide, by decide, wx_33, wt_IAE, Nat.le_of_ble_eq_true rfl, Or.inl ⟨rfl, 2, rfl, dL_chosen_6⟩, dL_chosen_7, gdm 955 (by decide +kernel) rfl, dL_chosen_9⟩
  · cases e
theorem y_L_chosen {g : xG} {h0 : xH} (a0 : Nat) (p1 : Int32) (h : xH) : Y g DL_chosen h0 false iI (f_L_chosen a0 p1 h) 0 [some (.ref a0), some (.int p1), none] [] h := by
  unfold f_L_chosen
  refine Y.op (pc' := 1) (fun _ => X.aloadn rfl dL_chosen_0) ?_
  refine Y.op (pc' := 2) (fun _ => X.iloadn rfl dL_chosen_1) ?_
  exact Y.callW (As := [.int p1]) lk_L_98 rfl cal_X9_chosen vir_X9_chosen (Nat.le_of_ble_eq_true rfl) (Nat.le_of_ble_eq_true rfl) rfl rfl rfl rfl dL_chosen_2 dL_chosen_5 wh_L_chosen (fun _ e => m_X9_chosen a0 p1 h _ e)
theorem m_L_chosen {g : xG} (a0 : Nat) (p1 : Int32) (h : xH) (r : Int32 × xH) (e : f_L_chosen a0 p1 h = some r) : XM g DL_chosen [.ref a0, .int p1] h false (iI r) := by
  have q := y_L_chosen (g := g) (h0 := h) a0 p1 h r e
  exact XM.ofH rfl rfl (Nat.le_of_ble_eq_true rfl) q.1.1 q.1.2.1 q.2
def wc_L_round (E : String) : Option Int32 := if E = NSE then some (-2000000096) else none
def f_L_round (a0 : Nat) (p1 : Int32) (p2 : Int32) (h : xH) : Option (Int32 × xH) := (vc h 9 a0 (f_X9_round a0 p1 p2 h)).bind (wrp wc_L_round)
theorem wh_L_round (E : String) (c : Int32) (e : wc_L_round E = some c) : xHan DL_round 3 E c := by
  unfold wc_L_round at e
  split at e
  · rename_i q; subst q; cases e; exact ⟨[], [], 0, 6, 7, 43, 3, 1, 45, NSE, rfl, (fun z hz => nomatch hz), by decide, by decide, wx_43, wt_NSE, Nat.le_of_ble_eq_true rfl, Or.inl ⟨rfl, 3, rfl, dL_round_7⟩, dL_round_8, gdm 1007 (by decide +kernel) rfl, dL_round_10⟩
  · cases e
theorem y_L_round {g : xG} {h0 : xH} (a0 : Nat) (p1 : Int32) (p2 : Int32) (h : xH) : Y g DL_round h0 false iI (f_L_round a0 p1 p2 h) 0 [some (.ref a0), some (.int p1), some (.int p2), none] [] h := by
  unfold f_L_round
  refine Y.op (pc' := 1) (fun _ => X.aloadn rfl dL_round_0) ?_
  refine Y.op (pc' := 2) (fun _ => X.iloadn rfl dL_round_1) ?_
  refine Y.op (pc' := 3) (fun _ => X.iloadn rfl dL_round_2) ?_
  exact Y.callW (As := [.int p1, .int p2]) lk_L_101 rfl cal_X9_round vir_X9_round (Nat.le_of_ble_eq_true rfl) (Nat.le_of_ble_eq_true rfl) rfl rfl rfl rfl dL_round_3 dL_round_6 wh_L_round (fun _ e => m_X9_round a0 p1 p2 h _ e)
theorem m_L_round {g : xG} (a0 : Nat) (p1 : Int32) (p2 : Int32) (h : xH) (r : Int32 × xH) (e : f_L_round a0 p1 p2 h = some r) : XM g DL_round [.ref a0, .int p1, .int p2] h false (iI r) := by
  have q := y_L_round (g := g) (h0 := h) a0 p1 p2 h r e
  exact XM.ofH rfl rfl (Nat.le_of_ble_eq_true rfl) q.1.1 q.1.2.1 q.2
def wc_L_add (E : String) : Option Int32 := if E = NSE then some (-2000000096) else if E = IAE then some (-2000000098) else none
def f_L_add (a0 : Nat) (p1 : Int32) (p2 : Int32) (p3 : Int32) (h : xH) : Option (Int32 × xH) := (vc h 9 a0 (f_X9_add a0 p1 p2 p3 h)).bind (wrp wc_L_add)
theorem wh_L_add (E : String) (c : Int32) (e : wc_L_add E = some c) : xHan DL_add 4 E c := by
  unfold wc_L_add at e
  split at e
  · rename_i q; subst q; cases e; exact ⟨[], [(0, 7, 13, 33)], 0, 7, 8, 43, 4, 2, 45, NSE, rfl, (fun z hz => nomatch hz), by decide, by decide, wx_43, wt_NSE, Nat.le_of_ble_eq_true rfl, Or.inr ⟨rfl, dL_add_8⟩, dL_add_10, gdm 1007 (by decide +kernel) rfl, dL_add_12⟩
  · split at e
    · rename_i q; subst q; cases e; exact ⟨[(0, 7, 8, 43)], [], 0, 7, 13, 33, 4, 2, 35, IAE, rfl, (fun z hz => by rw [List.mem_singleton.mp hz]; exact ⟨by decide, wx_43, rfl⟩), by decide, by decide, wx_33, wt_IAE, Nat.le_of_ble_eq_true rfl, Or.inr ⟨rfl, dL_add_13⟩, dL_add_15, gdm 955 (by decide +kernel) rfl, dL_add_17⟩
    · cases e
theorem y_L_add {g : xG} {h0 : xH} (a0 : Nat) (p1 : Int32) (p2 : Int32) (p3 : Int32) (h : xH) : Y g DL_add h0 false iI (f_L_add a0 p1 p2 p3 h) 0 [some (.ref a0), some (.int p1), some (.int p2), some (.int p3), none] [] h := by
  unfold f_L_add
  refine Y.op (pc' := 1) (fun _ => X.aloadn rfl dL_add_0) ?_
  refine Y.op (pc' := 2) (fun _ => X.iloadn rfl dL_add_1) ?_
  refine Y.op (pc' := 3) (fun _ => X.iloadn rfl dL_add_2) ?_
  refine Y.op (pc' := 4) (fun _ => X.iloadn rfl dL_add_3) ?_
  exact Y.callW (As := [.int p1, .int p2, .int p3]) lk_L_104 rfl cal_X9_add vir_X9_add (Nat.le_of_ble_eq_true rfl) (Nat.le_of_ble_eq_true rfl) rfl rfl rfl rfl dL_add_4 dL_add_7 wh_L_add (fun _ e => m_X9_add a0 p1 p2 p3 h _ e)
theorem m_L_add {g : xG} (a0 : Nat) (p1 : Int32) (p2 : Int32) (p3 : Int32) (h : xH) (r : Int32 × xH) (e : f_L_add a0 p1 p2 p3 h = some r) : XM g DL_add [.ref a0, .int p1, .int p2, .int p3] h false (iI r) := by
  have q := y_L_add (g := g) (h0 := h) a0 p1 p2 p3 h r e
  exact XM.ofH rfl rfl (Nat.le_of_ble_eq_true rfl) q.1.1 q.1.2.1 q.2
def wc_L_drop (E : String) : Option Int32 := if E = NSE then some (-2000000096) else if E = IAE then some (-2000000098) else none
def f_L_drop (a0 : Nat) (p1 : Int32) (p2 : Int32) (h : xH) : Option (Int32 × xH) := (vc h 9 a0 (f_X9_drop a0 p1 p2 h)).bind (wrp wc_L_drop)
theorem wh_L_drop (E : String) (c : Int32) (e : wc_L_drop E = some c) : xHan DL_drop 3 E c := by
  unfold wc_L_drop at e
  split at e
  · rename_i q; subst q; cases e; exact ⟨[], [(0, 6, 11, 33)], 0, 6, 7, 43, 3, 1, 45, NSE, rfl, (fun z hz => nomatch hz), by decide, by decide, wx_43, wt_NSE, Nat.le_of_ble_eq_true rfl, Or.inl ⟨rfl, 3, rfl, dL_drop_7⟩, dL_drop_8, gdm 1007 (by decide +kernel) rfl, dL_drop_10⟩
  · split at e
    · rename_i q; subst q; cases e; exact ⟨[(0, 6, 7, 43)], [], 0, 6, 11, 33, 3, 1, 35, IAE, rfl, (fun z hz => by rw [List.mem_singleton.mp hz]; exact ⟨by decide, wx_43, rfl⟩), by decide, by decide, wx_33, wt_IAE, Nat.le_of_ble_eq_true rfl, Or.inl ⟨rfl, 3, rfl, dL_drop_11⟩, dL_drop_12, gdm 955 (by decide +kernel) rfl, dL_drop_14⟩
    · cases e
theorem y_L_drop {g : xG} {h0 : xH} (a0 : Nat) (p1 : Int32) (p2 : Int32) (h : xH) : Y g DL_drop h0 false iI (f_L_drop a0 p1 p2 h) 0 [some (.ref a0), some (.int p1), some (.int p2), none] [] h := by
  unfold f_L_drop
  refine Y.op (pc' := 1) (fun _ => X.aloadn rfl dL_drop_0) ?_
  refine Y.op (pc' := 2) (fun _ => X.iloadn rfl dL_drop_1) ?_
  refine Y.op (pc' := 3) (fun _ => X.iloadn rfl dL_drop_2) ?_
  exact Y.callW (As := [.int p1, .int p2]) lk_L_107 rfl cal_X9_drop vir_X9_drop (Nat.le_of_ble_eq_true rfl) (Nat.le_of_ble_eq_true rfl) rfl rfl rfl rfl dL_drop_3 dL_drop_6 wh_L_drop (fun _ e => m_X9_drop a0 p1 p2 h _ e)
theorem m_L_drop {g : xG} (a0 : Nat) (p1 : Int32) (p2 : Int32) (h : xH) (r : Int32 × xH) (e : f_L_drop a0 p1 p2 h = some r) : XM g DL_drop [.ref a0, .int p1, .int p2] h false (iI r) := by
  have q := y_L_drop (g := g) (h0 := h) a0 p1 p2 h r e
  exact XM.ofH rfl rfl (Nat.le_of_ble_eq_true rfl) q.1.1 q.1.2.1 q.2
def wc_L_is (E : String) : Option Int32 := if E = NSE then some (-2000000096) else if E = IAE then some (-2000000098) else none
def f_L_is (a0 : Nat) (p1 : Int32) (p2 : Int32) (p3 : Int32) (h : xH) : Option (Int32 × xH) := (vc h 9 a0 (f_X9_is a0 p1 p2 p3 h)).bind (wrp wc_L_is)
theorem wh_L_is (E : String) (c : Int32) (e : wc_L_is E = some c) : xHan DL_is 4 E c := by
  unfold wc_L_is at e
  split at e
  · rename_i q; subst q; cases e; exact ⟨[], [(0, 7, 13, 33)], 0, 7, 8, 43, 4, 2, 45, NSE, rfl, (fun z hz => nomatch hz), by decide, by decide, wx_43, wt_NSE, Nat.le_of_ble_eq_true rfl, Or.inr ⟨rfl, dL_is_8⟩, dL_is_10, gdm 1007 (by decide +kernel) rfl, dL_is_12⟩
  · split at e
    · rename_i q; subst q; cases e; exact ⟨[(0, 7, 8, 43)], [], 0, 7, 13, 33, 4, 2, 35, IAE, rfl, (fun z hz => by rw [List.mem_singleton.mp hz]; exact ⟨by decide, wx_43, rfl⟩), by decide, by decide, wx_33, wt_IAE, Nat.le_of_ble_eq_true rfl, Or.inr ⟨rfl, dL_is_13⟩, dL_is_15, gdm 955 (by decide +kernel) rfl, dL_is_17⟩
    · cases e
theorem y_L_is {g : xG} {h0 : xH} (a0 : Nat) (p1 : Int32) (p2 : Int32) (p3 : Int32) (h : xH) : Y g DL_is h0 false iI (f_L_is a0 p1 p2 p3 h) 0 [some (.ref a0), some (.int p1), some (.int p2), some (.int p3), none] [] h := by
  unfold f_L_is
  refine Y.op (pc' := 1) (fun _ => X.aloadn rfl dL_is_0) ?_
  refine Y.op (pc' := 2) (fun _ => X.iloadn rfl dL_is_1) ?_
  refine Y.op (pc' := 3) (fun _ => X.iloadn rfl dL_is_2) ?_
  refine Y.op (pc' := 4) (fun _ => X.iloadn rfl dL_is_3) ?_
  exact Y.callW (As := [.int p1, .int p2, .int p3]) lk_L_110 rfl cal_X9_is vir_X9_is (Nat.le_of_ble_eq_true rfl) (Nat.le_of_ble_eq_true rfl) rfl rfl rfl rfl dL_is_4 dL_is_7 wh_L_is (fun _ e => m_X9_is a0 p1 p2 p3 h _ e)
theorem m_L_is {g : xG} (a0 : Nat) (p1 : Int32) (p2 : Int32) (p3 : Int32) (h : xH) (r : Int32 × xH) (e : f_L_is a0 p1 p2 p3 h = some r) : XM g DL_is [.ref a0, .int p1, .int p2, .int p3] h false (iI r) := by
  have q := y_L_is (g := g) (h0 := h) a0 p1 p2 p3 h r e
  exact XM.ofH rfl rfl (Nat.le_of_ble_eq_true rfl) q.1.1 q.1.2.1 q.2
def wc_L_pair (E : String) : Option Int32 := if E = NSE then some (-2000000096) else if E = IAE then some (-2000000098) else none
def f_L_pair (a0 : Nat) (p1 : Int32) (p2 : Int32) (h : xH) : Option (Int32 × xH) := (vc h 9 a0 (f_X9_pair a0 p1 p2 h)).bind (wrp wc_L_pair)
theorem wh_L_pair (E : String) (c : Int32) (e : wc_L_pair E = some c) : xHan DL_pair 3 E c := by
  unfold wc_L_pair at e
  split at e
  · rename_i q; subst q; cases e; exact ⟨[], [(0, 6, 11, 33)], 0, 6, 7, 43, 3, 1, 45, NSE, rfl, (fun z hz => nomatch hz), by decide, by decide, wx_43, wt_NSE, Nat.le_of_ble_eq_true rfl, Or.inl ⟨rfl, 3, rfl, dL_pair_7⟩, dL_pair_8, gdm 1007 (by decide +kernel) rfl, dL_pair_10⟩
  · split at e
    · rename_i q; subst q; cases e; exact ⟨[(0, 6, 7, 43)], [], 0, 6, 11, 33, 3, 1, 35, IAE, rfl, (fun z hz => by rw [List.mem_singleton.mp hz]; exact ⟨by decide, wx_43, rfl⟩), by decide, by decide, wx_33, wt_IAE, Nat.le_of_ble_eq_true rfl, Or.inl ⟨rfl, 3, rfl, dL_pair_11⟩, dL_pair_12, gdm 955 (by decide +kernel) rfl, dL_pair_14⟩
    · cases e
theorem y_L_pair {g : xG} {h0 : xH} (a0 : Nat) (p1 : Int32) (p2 : Int32) (h : xH) : Y g DL_pair h0 false iI (f_L_pair a0 p1 p2 h) 0 [some (.ref a0), some (.int p1), some (.int p2), none] [] h := by
  unfold f_L_pair
  refine Y.op (pc' := 1) (fun _ => X.aloadn rfl dL_pair_0) ?_
  refine Y.op (pc' := 2) (fun _ => X.iloadn rfl dL_pair_1) ?_
  refine Y.op (pc' := 3) (fun _ => X.iloadn rfl dL_pair_2) ?_
  exact Y.callW (As := [.int p1, .int p2]) lk_L_113 rfl cal_X9_pair vir_X9_pair (Nat.le_of_ble_eq_true rfl) (Nat.le_of_ble_eq_true rfl) rfl rfl rfl rfl dL_pair_3 dL_pair_6 wh_L_pair (fun _ e => m_X9_pair a0 p1 p2 h _ e)
theorem m_L_pair {g : xG} (a0 : Nat) (p1 : Int32) (p2 : Int32) (h : xH) (r : Int32 × xH) (e : f_L_pair a0 p1 p2 h = some r) : XM g DL_pair [.ref a0, .int p1, .int p2] h false (iI r) := by
  have q := y_L_pair (g := g) (h0 := h) a0 p1 p2 h r e
  exact XM.ofH rfl rfl (Nat.le_of_ble_eq_true rfl) q.1.1 q.1.2.1 q.2
def wc_L_part (E : String) : Option Int32 := if E = NSE then some (-2000000096) else if E = IAE then some (-2000000098) else none
def f_L_part (a0 : Nat) (p1 : Int32) (h : xH) : Option (Int32 × xH) := (vc h 9 a0 (f_X9_part a0 p1 h)).bind (wrp wc_L_part)
theorem wh_L_part (E : String) (c : Int32) (e : wc_L_part E = some c) : xHan DL_part 2 E c := by
  unfold wc_L_part at e
  split at e
  · rename_i q; subst q; cases e; exact ⟨[], [(0, 5, 10, 33)], 0, 5, 6, 43, 2, 1, 45, NSE, rfl, (fun z hz => nomatch hz), by decide, by decide, wx_43, wt_NSE, Nat.le_of_ble_eq_true rfl, Or.inl ⟨rfl, 2, rfl, dL_part_6⟩, dL_part_7, gdm 1007 (by decide +kernel) rfl, dL_part_9⟩
  · split at e
    · rename_i q; subst q; cases e; exact ⟨[(0, 5, 6, 43)], [], 0, 5, 10, 33, 2, 1, 35, IAE, rfl, (fun z hz => by rw [List.mem_singleton.mp hz]; exact ⟨by decide, wx_43, rfl⟩), by decide, by decide, wx_33, wt_IAE, Nat.le_of_ble_eq_true rfl, Or.inl ⟨rfl, 2, rfl, dL_part_10⟩, dL_part_11, gdm 955 (by decide +kernel) rfl, dL_part_13⟩
    · cases e
theorem y_L_part {g : xG} {h0 : xH} (a0 : Nat) (p1 : Int32) (h : xH) : Y g DL_part h0 false iI (f_L_part a0 p1 h) 0 [some (.ref a0), some (.int p1), none] [] h := by
  unfold f_L_part
  refine Y.op (pc' := 1) (fun _ => X.aloadn rfl dL_part_0) ?_
  refine Y.op (pc' := 2) (fun _ => X.iloadn rfl dL_part_1) ?_
  exact Y.callW (As := [.int p1]) lk_L_116 rfl cal_X9_part vir_X9_part (Nat.le_of_ble_eq_true rfl) (Nat.le_of_ble_eq_true rfl) rfl rfl rfl rfl dL_part_2 dL_part_5 wh_L_part (fun _ e => m_X9_part a0 p1 h _ e)
theorem m_L_part {g : xG} (a0 : Nat) (p1 : Int32) (h : xH) (r : Int32 × xH) (e : f_L_part a0 p1 h = some r) : XM g DL_part [.ref a0, .int p1] h false (iI r) := by
  have q := y_L_part (g := g) (h0 := h) a0 p1 h r e
  exact XM.ofH rfl rfl (Nat.le_of_ble_eq_true rfl) q.1.1 q.1.2.1 q.2
def wc_L_weight (E : String) : Option Int32 := if E = NSE then some (-2000000096) else if E = IAE then some (-2000000098) else none
def f_L_weight (a0 : Nat) (p1 : Int32) (p2 : Int32) (h : xH) : Option (Int32 × xH) := (vc h 9 a0 (f_X9_weight a0 p1 p2 h)).bind (wrp wc_L_weight)
theorem wh_L_weight (E : String) (c : Int32) (e : wc_L_weight E = some c) : xHan DL_weight 3 E c := by
  unfold wc_L_weight at e
  split at e
  · rename_i q; subst q; cases e; exact ⟨[], [(0, 6, 11, 33)], 0, 6, 7, 43, 3, 1, 45, NSE, rfl, (fun z hz => nomatch hz), by decide, by decide, wx_43, wt_NSE, Nat.le_of_ble_eq_true rfl, Or.inl ⟨rfl, 3, rfl, dL_weight_7⟩, dL_weight_8, gdm 1007 (by decide +kernel) rfl, dL_weight_10⟩
  · split at e
    · rename_i q; subst q; cases e; exact ⟨[(0, 6, 7, 43)], [], 0, 6, 11, 33, 3, 1, 35, IAE, rfl, (fun z hz => by rw [List.mem_singleton.mp hz]; exact ⟨by decide, wx_43, rfl⟩), by decide, by decide, wx_33, wt_IAE, Nat.le_of_ble_eq_true rfl, Or.inl ⟨rfl, 3, rfl, dL_weight_11⟩, dL_weight_12, gdm 955 (by decide +kernel) rfl, dL_weight_14⟩
    · cases e
theorem y_L_weight {g : xG} {h0 : xH} (a0 : Nat) (p1 : Int32) (p2 : Int32) (h : xH) : Y g DL_weight h0 false iI (f_L_weight a0 p1 p2 h) 0 [some (.ref a0), some (.int p1), some (.int p2), none] [] h := by
  unfold f_L_weight
  refine Y.op (pc' := 1) (fun _ => X.aloadn rfl dL_weight_0) ?_
  refine Y.op (pc' := 2) (fun _ => X.iloadn rfl dL_weight_1) ?_
  refine Y.op (pc' := 3) (fun _ => X.iloadn rfl dL_weight_2) ?_
  exact Y.callW (As := [.int p1, .int p2]) lk_L_119 rfl cal_X9_weight vir_X9_weight (Nat.le_of_ble_eq_true rfl) (Nat.le_of_ble_eq_true rfl) rfl rfl rfl rfl dL_weight_3 dL_weight_6 wh_L_weight (fun _ e => m_X9_weight a0 p1 p2 h _ e)
theorem m_L_weight {g : xG} (a0 : Nat) (p1 : Int32) (p2 : Int32) (h : xH) (r : Int32 × xH) (e : f_L_weight a0 p1 p2 h = some r) : XM g DL_weight [.ref a0, .int p1, .int p2] h false (iI r) := by
  have q := y_L_weight (g := g) (h0 := h) a0 p1 p2 h r e
  exact XM.ofH rfl rfl (Nat.le_of_ble_eq_true rfl) q.1.1 q.1.2.1 q.2
def wc_L_keep (E : String) : Option Int32 := if E = IAE then some (-2000000098) else none
def f_L_keep (a0 : Nat) (p1 : Int32) (h : xH) : Option (Int32 × xH) := (vc h 9 a0 (f_X9_keep a0 p1 h)).bind (wrp wc_L_keep)
theorem wh_L_keep (E : String) (c : Int32) (e : wc_L_keep E = some c) : xHan DL_keep 2 E c := by
  unfold wc_L_keep at e
  split at e
  · rename_i q; subst q; cases e; exact ⟨[], [], 0, 5, 6, 33, 2, 1, 35, IAE, rfl, (fun z hz => nomatch hz), by decide, by decide, wx_33, wt_IAE, Nat.le_of_ble_eq_true rfl, Or.inl ⟨rfl, 2, rfl, dL_keep_6⟩, dL_keep_7, gdm 955 (by decide +kernel) rfl, dL_keep_9⟩
  · cases e
theorem y_L_keep {g : xG} {h0 : xH} (a0 : Nat) (p1 : Int32) (h : xH) : Y g DL_keep h0 false iI (f_L_keep a0 p1 h) 0 [some (.ref a0), some (.int p1), none] [] h := by
  unfold f_L_keep
  refine Y.op (pc' := 1) (fun _ => X.aloadn rfl dL_keep_0) ?_
  refine Y.op (pc' := 2) (fun _ => X.iloadn rfl dL_keep_1) ?_
  exact Y.callW (As := [.int p1]) lk_L_122 rfl cal_X9_keep vir_X9_keep (Nat.le_of_ble_eq_true rfl) (Nat.le_of_ble_eq_true rfl) rfl rfl rfl rfl dL_keep_2 dL_keep_5 wh_L_keep (fun _ e => m_X9_keep a0 p1 h _ e)
theorem m_L_keep {g : xG} (a0 : Nat) (p1 : Int32) (h : xH) (r : Int32 × xH) (e : f_L_keep a0 p1 h = some r) : XM g DL_keep [.ref a0, .int p1] h false (iI r) := by
  have q := y_L_keep (g := g) (h0 := h) a0 p1 h r e
  exact XM.ofH rfl rfl (Nat.le_of_ble_eq_true rfl) q.1.1 q.1.2.1 q.2
def wc_L_settle (E : String) : Option Int32 := if E = IAE then some (-2000000098) else none
def f_L_settle (a0 : Nat) (p1 : Int32) (h : xH) : Option (Int32 × xH) := (vc h 9 a0 (f_X9_settle a0 p1 h)).bind (wrp wc_L_settle)
theorem wh_L_settle (E : String) (c : Int32) (e : wc_L_settle E = some c) : xHan DL_settle 2 E c := by
  unfold wc_L_settle at e
  split at e
  · rename_i q; subst q; cases e; exact ⟨[], [], 0, 5, 6, 33, 2, 1, 35, IAE, rfl, (fun z hz => nomatch hz), by decide, by decide, wx_33, wt_IAE, Nat.le_of_ble_eq_true rfl, Or.inl ⟨rfl, 2, rfl, dL_settle_6⟩, dL_settle_7, gdm 955 (by decide +kernel) rfl, dL_settle_9⟩
  · cases e
theorem y_L_settle {g : xG} {h0 : xH} (a0 : Nat) (p1 : Int32) (h : xH) : Y g DL_settle h0 false iI (f_L_settle a0 p1 h) 0 [some (.ref a0), some (.int p1), none] [] h := by
  unfold f_L_settle
  refine Y.op (pc' := 1) (fun _ => X.aloadn rfl dL_settle_0) ?_
  refine Y.op (pc' := 2) (fun _ => X.iloadn rfl dL_settle_1) ?_
  exact Y.callW (As := [.int p1]) lk_L_125 rfl cal_X9_settle vir_X9_settle (Nat.le_of_ble_eq_true rfl) (Nat.le_of_ble_eq_true rfl) rfl rfl rfl rfl dL_settle_2 dL_settle_5 wh_L_settle (fun _ e => m_X9_settle a0 p1 h _ e)
theorem m_L_settle {g : xG} (a0 : Nat) (p1 : Int32) (h : xH) (r : Int32 × xH) (e : f_L_settle a0 p1 h = some r) : XM g DL_settle [.ref a0, .int p1] h false (iI r) := by
  have q := y_L_settle (g := g) (h0 := h) a0 p1 h r e
  exact XM.ofH rfl rfl (Nat.le_of_ble_eq_true rfl) q.1.1 q.1.2.1 q.2
