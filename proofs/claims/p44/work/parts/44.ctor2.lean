/-! CONSTRUCTORS: Book -/
section CT
variable {sh : xH} {μ : MM}
theorem nwC_t {t : xH} {c : xC} (h : Z μ sh.length) (e : c.2.all dfl = true) (hl : sh.length + t.length + 1 < 1000000) : nwC (mS (sh ++ t) μ) c = some (sh.length + t.length, mS (sh ++ (t ++ [c])) μ) := by
  rw [nwC_s (h.mono (by rw [List.length_append]; omega)) e (by rw [List.length_append]; omega), List.length_append, List.append_assoc]
theorem nwI_t {t : xH} {n : Int32} {k : Nat} (h : Z μ sh.length) (hk : n = Int32.ofNat k) (hk2 : k < 100000) (hl : sh.length + t.length + 1 < 1000000) : nwI (mS (sh ++ t) μ) n = some (sh.length + t.length, mS (sh ++ (t ++ [(100, dI k)])) μ) := by
  rw [nwI_s (h.mono (by rw [List.length_append]; omega)) hk hk2 (by rw [List.length_append]; omega), List.length_append, List.append_assoc]
theorem nwJ_t {t : xH} {n : Int32} {k : Nat} (h : Z μ sh.length) (hk : n = Int32.ofNat k) (hk2 : k < 100000) (hl : sh.length + t.length + 1 < 1000000) : nwJ (mS (sh ++ t) μ) n = some (sh.length + t.length, mS (sh ++ (t ++ [(101, dJ k)])) μ) := by
  rw [nwJ_s (h.mono (by rw [List.length_append]; omega)) hk hk2 (by rw [List.length_append]; omega), List.length_append, List.append_assoc]
theorem pR_t {t : xH} {ci j k q : Nat} {l : List Value} (e : t[j]? = some (ci, l)) (hk : k < l.length) : pR (mS (sh ++ t) μ) ci (sh.length + j) k q = some (mS (sh ++ t.set j (ci, l.set k (.ref q))) μ) := by
  rw [pR_s (app_at.trans e) hk, app_set]
theorem pI_t {t : xH} {ci j k : Nat} {v : Int32} (e : slot t ci j k isInt = true) : pI (mS (sh ++ t) μ) ci (sh.length + j) k v = some (mS (sh ++ t) (st μ (sh.length + j) k v)) := pI_m (slot_app.trans e)
theorem c_X3_init_t {t : xH} {j : Nat} (hj : j = t.length) (h : Z μ sh.length) (hl : sh.length + t.length + 3 < 1000000) : f_X3_init (sh.length + j) (mS (sh ++ (t ++ [(3, dv_X3)])) μ) = some (mS (sh ++ (t ++ prC (sh.length + j))) (prM μ (sh.length + j))) := by
  subst hj
  have := c_X3_init (sh := sh ++ t) (μ := μ) (h.mono (by rw [List.length_append]; omega)) (by rw [List.length_append]; omega)
  rwa [List.length_append, List.append_assoc, List.append_assoc] at this
theorem bkOK_app : bkOK (sh ++ bkC sh.length) sh.length = true := by
  have s : ∀ k f, slot (sh ++ bkC sh.length) 0 sh.length k f = slot (bkC sh.length) 0 0 k f := fun k f => slot_app (j := 0)
  have t0 : isT (sh ++ bkC sh.length) 0 sh.length = isT (bkC sh.length) 0 0 := isT_app (j := 0)
  simp only [bkOK, prOK, s, t0, Nat.add_assoc, slot_app, isA_app, isT_app]
  simp [slot, isA, isT, bkC, prC, isRef, isInt, dI]
theorem c_X0_init (h : Z μ sh.length) (hl : sh.length + 8 < 1000000) : f_X0_init sh.length (mS (sh ++ [(0, dv_X0)]) μ) = some (mS (sh ++ bkC sh.length) (bgM (prM μ (sh.length + 5)) sh.length 1 1)) := by
  unfold f_X0_init
  rw [show nwI (mS (sh ++ [(0, [.int 0, .int 0, .int 0, .int 0, .int 0, .null, .null, .null, .null, .null])]) μ) 12 = some (sh.length + 1, mS (sh ++ [(0, [.int 0, .int 0, .int 0, .int 0, .int 0, .null, .null, .null, .null, .null]), (100, dI 12)]) μ) from nwI_t (k := 12) h rfl (by decide) (by simp; omega)]
  simp only [Option.bind_some]
  rw [show pR (mS (sh ++ [(0, [.int 0, .int 0, .int 0, .int 0, .int 0, .null, .null, .null, .null, .null]), (100, dI 12)]) μ) 0 sh.length 5 (sh.length + 1) = some (mS (sh ++ [(0, [.int 0, .int 0, .int 0, .int 0, .int 0, .ref (sh.length + 1), .null, .null, .null, .null]), (100, dI 12)]) μ) from pR_t (t := [(0, [.int 0, .int 0, .int 0, .int 0, .int 0, .null, .null, .null, .null, .null]), (100, dI 12)]) (j := 0) (k := 5) (q := sh.length + 1) (l := [.int 0, .int 0, .int 0, .int 0, .int 0, .null, .null, .null, .null, .null]) rfl (Nat.le_of_ble_eq_true rfl)]
  simp only [Option.bind_some]
  rw [show nwI (mS (sh ++ [(0, [.int 0, .int 0, .int 0, .int 0, .int 0, .ref (sh.length + 1), .null, .null, .null, .null]), (100, dI 12)]) μ) 12 = some (sh.length + 2, mS (sh ++ [(0, [.int 0, .int 0, .int 0, .int 0, .int 0, .ref (sh.length + 1), .null, .null, .null, .null]), (100, dI 12), (100, dI 12)]) μ) from nwI_t (k := 12) h rfl (by decide) (by simp; omega)]
  simp only [Option.bind_some]
  rw [show pR (mS (sh ++ [(0, [.int 0, .int 0, .int 0, .int 0, .int 0, .ref (sh.length + 1), .null, .null, .null, .null]), (100, dI 12), (100, dI 12)]) μ) 0 sh.length 6 (sh.length + 2) = some (mS (sh ++ [(0, [.int 0, .int 0, .int 0, .int 0, .int 0, .ref (sh.length + 1), .ref (sh.length + 2), .null, .null, .null]), (100, dI 12), (100, dI 12)]) μ) from pR_t (t := [(0, [.int 0, .int 0, .int 0, .int 0, .int 0, .ref (sh.length + 1), .null, .null, .null, .null]), (100, dI 12), (100, dI 12)]) (j := 0) (k := 6) (q := sh.length + 2) (l := [.int 0, .int 0, .int 0, .int 0, .int 0, .ref (sh.length + 1), .null, .null, .null, .null]) rfl (Nat.le_of_ble_eq_true rfl)]
  simp only [Option.bind_some]
  rw [show nwI (mS (sh ++ [(0, [.int 0, .int 0, .int 0, .int 0, .int 0, .ref (sh.length + 1), .ref (sh.length + 2), .null, .null, .null]), (100, dI 12), (100, dI 12)]) μ) 12 = some (sh.length + 3, mS (sh ++ [(0, [.int 0, .int 0, .int 0, .int 0, .int 0, .ref (sh.length + 1), .ref (sh.length + 2), .null, .null, .null]), (100, dI 12), (100, dI 12), (100, dI 12)]) μ) from nwI_t (k := 12) h rfl (by decide) (by simp; omega)]
  simp only [Option.bind_some]
  rw [show pR (mS (sh ++ [(0, [.int 0, .int 0, .int 0, .int 0, .int 0, .ref (sh.length + 1), .ref (sh.length + 2), .null, .null, .null]), (100, dI 12), (100, dI 12), (100, dI 12)]) μ) 0 sh.length 7 (sh.length + 3) = some (mS (sh ++ [(0, [.int 0, .int 0, .int 0, .int 0, .int 0, .ref (sh.length + 1), .ref (sh.length + 2), .ref (sh.length + 3), .null, .null]), (100, dI 12), (100, dI 12), (100, dI 12)]) μ) from pR_t (t := [(0, [.int 0, .int 0, .int 0, .int 0, .int 0, .ref (sh.length + 1), .ref (sh.length + 2), .null, .null, .null]), (100, dI 12), (100, dI 12), (100, dI 12)]) (j := 0) (k := 7) (q := sh.length + 3) (l := [.int 0, .int 0, .int 0, .int 0, .int 0, .ref (sh.length + 1), .ref (sh.length + 2), .null, .null, .null]) rfl (Nat.le_of_ble_eq_true rfl)]
  simp only [Option.bind_some]
  rw [show nwI (mS (sh ++ [(0, [.int 0, .int 0, .int 0, .int 0, .int 0, .ref (sh.length + 1), .ref (sh.length + 2), .ref (sh.length + 3), .null, .null]), (100, dI 12), (100, dI 12), (100, dI 12)]) μ) 144 = some (sh.length + 4, mS (sh ++ [(0, [.int 0, .int 0, .int 0, .int 0, .int 0, .ref (sh.length + 1), .ref (sh.length + 2), .ref (sh.length + 3), .null, .null]), (100, dI 12), (100, dI 12), (100, dI 12), (100, dI 144)]) μ) from nwI_t (k := 144) h rfl (by decide) (by simp; omega)]
  simp only [Option.bind_some]
  rw [show pR (mS (sh ++ [(0, [.int 0, .int 0, .int 0, .int 0, .int 0, .ref (sh.length + 1), .ref (sh.length + 2), .ref (sh.length + 3), .null, .null]), (100, dI 12), (100, dI 12), (100, dI 12), (100, dI 144)]) μ) 0 sh.length 8 (sh.length + 4) = some (mS (sh ++ [(0, [.int 0, .int 0, .int 0, .int 0, .int 0, .ref (sh.length + 1), .ref (sh.length + 2), .ref (sh.length + 3), .ref (sh.length + 4), .null]), (100, dI 12), (100, dI 12), (100, dI 12), (100, dI 144)]) μ) from pR_t (t := [(0, [.int 0, .int 0, .int 0, .int 0, .int 0, .ref (sh.length + 1), .ref (sh.length + 2), .ref (sh.length + 3), .null, .null]), (100, dI 12), (100, dI 12), (100, dI 12), (100, dI 144)]) (j := 0) (k := 8) (q := sh.length + 4) (l := [.int 0, .int 0, .int 0, .int 0, .int 0, .ref (sh.length + 1), .ref (sh.length + 2), .ref (sh.length + 3), .null, .null]) rfl (Nat.le_of_ble_eq_true rfl)]
  simp only [Option.bind_some]
  rw [show nwC (mS (sh ++ [(0, [.int 0, .int 0, .int 0, .int 0, .int 0, .ref (sh.length + 1), .ref (sh.length + 2), .ref (sh.length + 3), .ref (sh.length + 4), .null]), (100, dI 12), (100, dI 12), (100, dI 12), (100, dI 144)]) μ) (3, dv_X3) = some (sh.length + 5, mS (sh ++ ([(0, [.int 0, .int 0, .int 0, .int 0, .int 0, .ref (sh.length + 1), .ref (sh.length + 2), .ref (sh.length + 3), .ref (sh.length + 4), .null]), (100, dI 12), (100, dI 12), (100, dI 12), (100, dI 144)] ++ [(3, dv_X3)])) μ) from nwC_t h rfl (by simp; omega)]
  simp only [Option.bind_some]
  rw [ic_s (by simp), show f_X3_init (sh.length + 5) (mS (sh ++ ([(0, [.int 0, .int 0, .int 0, .int 0, .int 0, .ref (sh.length + 1), .ref (sh.length + 2), .ref (sh.length + 3), .ref (sh.length + 4), .null]), (100, dI 12), (100, dI 12), (100, dI 12), (100, dI 144)] ++ [(3, dv_X3)])) μ) = some (mS (sh ++ ([(0, [.int 0, .int 0, .int 0, .int 0, .int 0, .ref (sh.length + 1), .ref (sh.length + 2), .ref (sh.length + 3), .ref (sh.length + 4), .null]), (100, dI 12), (100, dI 12), (100, dI 12), (100, dI 144)] ++ prC (sh.length + 5))) (prM μ (sh.length + 5))) from c_X3_init_t rfl h (by simp; omega)]
  simp only [Option.bind_some]
  rw [show pR (mS (sh ++ ([(0, [.int 0, .int 0, .int 0, .int 0, .int 0, .ref (sh.length + 1), .ref (sh.length + 2), .ref (sh.length + 3), .ref (sh.length + 4), .null]), (100, dI 12), (100, dI 12), (100, dI 12), (100, dI 144)] ++ prC (sh.length + 5))) (prM μ (sh.length + 5))) 0 sh.length 9 (sh.length + 5) = some (mS (sh ++ bkC sh.length) (prM μ (sh.length + 5))) from pR_t (t := [(0, [.int 0, .int 0, .int 0, .int 0, .int 0, .ref (sh.length + 1), .ref (sh.length + 2), .ref (sh.length + 3), .ref (sh.length + 4), .null]), (100, dI 12), (100, dI 12), (100, dI 12), (100, dI 144)] ++ prC (sh.length + 5)) (j := 0) (k := 9) (q := sh.length + 5) (l := [.int 0, .int 0, .int 0, .int 0, .int 0, .ref (sh.length + 1), .ref (sh.length + 2), .ref (sh.length + 3), .ref (sh.length + 4), .null]) rfl (Nat.le_of_ble_eq_true rfl)]
  simp only [Option.bind_some]
  rw [vc_m (bkOK_spec bkOK_app).1, c_X0_begin bkOK_app]
  rfl
end CT
