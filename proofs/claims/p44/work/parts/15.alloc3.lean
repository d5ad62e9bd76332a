/-! rows of rows: new T[n][k] -/
def nwG (t t1 : Nat) (dv : Value) (h : xH) (n k : Int32) : Option (Nat × xH) :=
  if ¬ n < 0 ∧ ¬ k < 0 ∧ n.toNatClampNeg ≤ 100000 ∧ k.toNatClampNeg ≤ 100000 ∧ h.length + 1 + n.toNatClampNeg < 1000000 then
    some (h.length, h ++ (t, (List.range n.toNatClampNeg).map fun i => .ref (h.length + 1 + i)) :: List.replicate n.toNatClampNeg (t1, List.replicate k.toNatClampNeg dv))
  else none
theorem szs_app (a b : xH) : szs (a ++ b) = szs a + szs b := by
  induction a with
  | nil => simp [szs]
  | cons x t ih => simp only [List.cons_append, szs, ih]; omega
theorem szs_rep (n : Nat) (c : xC) : szs (List.replicate n c) = n * c.2.length := by
  induction n with
  | zero => simp [szs]
  | succ n ih => rw [List.replicate_succ, szs, ih, Nat.succ_mul]; omega
theorem HR.of {g : xG} {h h' : xH} {H H1 : Heap} (hH : HR g h H) (hp : ∀ k : Nat, k < h.length → h'[k]? = h[k]?) (hn : ∀ (k : Nat) (c : xC), h.length ≤ k → h'[k]? = some c → va_at (gD g) vwCl (gB g + k, cE g c) H1) (hold : ∀ q : Nat, q < H.size → H1[q]? = H[q]?) (hs : gB g + h'.length ≤ H1.size) (hl : h'.length < 1000000) : HR g h' H1 := by
  refine ⟨fun k q hq => ?_, hs, hl⟩
  rw [cw_at] at hq
  cases hc : h'[k]? with
  | none => rw [hc] at hq; cases hq
  | some c =>
    rw [hc] at hq
    cases hq
    rcases Nat.lt_or_ge k h.length with hk | hk
    · rw [hp k hk] at hc
      have he := hH.1 k _ (cw_get hc)
      exact va_at.kept he (hold _ he.lt)
    · exact hn k c hk hc
section YG
variable {ρ : Type} {g : xG} {D : xD} {h0 : xH} {inj : ρ → xR} {pc : Nat} {loc : xL} {st : List Value} {h : xH}
theorem rep_null {α : Type} {n : Nat} {v : Value} (f : Value → α) {z : α} (h1 : f v = z) (h2 : f .null = z) : (fun j => f ((List.replicate n v).getD j .null)) = fun _ => z := by
  funext j
  rw [List.getD_eq_getElem?_getD, List.getElem?_replicate]
  split
  · exact h1
  · exact h2
theorem Y.mna {own : String} {idx : Nat} {n k : Int32} {K : Nat × xH → Option ρ} (t t1 : Nat) (ty : FieldType) (dv : Value) (ht : t = 102 ∧ t1 = 100 ∧ ty = .int ∧ dv = .int 0) (w1 : Cond.classLink own idx ("[" ++ (FieldType.array ty).toString) ∈ lw_gd) (w2 : Cond.arrayClass ty ∈ lw_gd) (ho : (dy D).cls = own) (d : decode (dc D) pc = .ok (.multianewarray idx 2, 4))
    (kk : ∀ r, Y g D h0 false inj (K r) (pc + 4) loc (.ref r.1 :: st) r.2) : Y g D h0 false inj ((nwG t t1 dv h n k).bind K) pc loc (.int k :: .int n :: st) h := by
  intro r e
  obtain ⟨r', e1, e2⟩ := Option.bind_eq_some_iff.mp e
  unfold nwG at e1
  split at e1
  · rename_i hn
    obtain ⟨hn0, hk0, hN, hM, hlt⟩ := hn
    cases e1
    have q := kk _ r e2
    generalize hN' : n.toNatClampNeg = N at *
    generalize hK' : k.toNatClampNeg = M at *
    generalize hnew : (h ++ (t, (List.range N).map fun i => Value.ref (h.length + 1 + i)) :: List.replicate N (t1, List.replicate M dv) : xH) = h' at q
    have q : xle h' 0 (inj r) ∧ X g D h0 (inj r) (pc + 4) loc (.ref h.length :: st) h' false 0 := q
    have hlen : h'.length = h.length + 1 + N := by rw [← hnew]; simp; omega
    have hsz : szs h' = szs h + N + N * M := by rw [← hnew, szs_app, szs, szs_rep]; simp; omega
    refine ⟨⟨by have := q.1.1; omega, by have := q.1.2.1; omega, q.1.2.2⟩, ?_⟩
    intro p e' R s m args below meth c H locs ls C hH hS hL h1 h2
    obtain ⟨hx, hb, hml, hown⟩ := C.1
    rw [ho] at hown
    have hwd : ∀ w, w ∈ lw_gd → w.before args s = true := fun w hw => C.2.1 w (gd_in hw)
    have hK := C.2.2.2.1.1.1.1
    have hs0 := C.2.2.2.1.2.2 rfl
    have a9 := C.2.2.2.2.2.2.1
    have b9 := C.2.2.2.2.2.2.2
    have ec : nC h0 h' 0 = nC h0 h 0 + 1 + N := by unfold nC; omega
    have es : nS h0 h' 0 = nS h0 h 0 + N + N * M := by unfold nS; omega
    have hcR : nC h0 h 0 + (1 + N) ≤ R.cells := by have := nC_le (h0 := h0) q.1.1 q.1.2.2; omega
    have hsR : nS h0 h 0 + (N + N * M) ≤ R.slots := by have := nS_le (h0 := h0) q.1.2.1 q.1.2.2; omega
    have hty : fits ty (defaultValue ty) = true ∧ (defaultValue ty).isDefault = true ∧ componentBytes ty ≤ 8 ∧ defaultValue ty = dv := by
      obtain ⟨-, -, rfl, rfl⟩ := ht; exact ⟨rfl, rfl, by decide, rfl⟩
    have hAO : (Cond.arrayOver (.array ty)).before args s = true := by
      have : FieldType.array ty ∈ kAO := by obtain ⟨-, -, rfl, rfl⟩ := ht; simp [kAO]
      exact va_AOA.use (C.2.2.2.1.1.1.2.2.2.1 _ this)
    intro T hT Xs
    have hszH : H.size = gB g + h.length := by
      have := Xs.same.2.2.1
      have e0 : (T.setVm s.vm).heap.size = H.size := by rw [← hT]; rfl
      rw [e0] at this
      have := hH.2.1
      unfold nC at *
      omega
    obtain ⟨vm₁, cA, comp, hW, fA, fC, X', step⟩ := Xs.multianewarray2 hx hown (hwd _ w1) hAO (hwd _ w2) (g := F0 m pc ls (.int k :: .int n :: st.map (cv g))) rfl (by rw [hb]; exact d) rfl hn0 hk0 (by rw [hN']; omega) (by
      rw [hK']
      have := Nat.mul_le_mul hM hty.2.2.1
      omega) (by rw [hK']; omega) hty.1 hty.2.1 (by rw [hN']; exact hcR) (by rw [hN', hK']; exact hsR)
    rw [hN', hK', hty.2.2.2] at X' step
    have hTh : (T.setVm vm₁).heap = H := hT
    obtain ⟨f1, f2, -, -⟩ := Jvm.Free.Multi.fill_facts (T.setVm vm₁) cA comp N M dv N
    rw [hTh] at f1 f2
    have hold : ∀ x : Nat, x < H.size → (Jvm.Free.Multi.fill (T.setVm vm₁) cA comp N M dv N).heap[x]? = H[x]? := fun x hx => by
      have := Jvm.Free.Multi.fill_old (T.setVm vm₁) cA comp N M dv (a := x) (by rw [hTh]; exact hx) N
      rw [hTh] at this
      exact this
    have hrow : ∀ j : Nat, j < N → (Jvm.Free.Multi.fill (T.setVm vm₁) cA comp N M dv N).heap[H.size + 1 + j]? = some (Jvm.Free.Multi.innerC comp M dv) := fun j hj => by
      have := Jvm.Free.Multi.fill_inner (T.setVm vm₁) cA comp N M dv N j hj
      rw [hTh] at this
      exact this
    generalize hF : Jvm.Free.Multi.fill (T.setVm vm₁) cA comp N M dv N = F at X' step f1 f2 hold hrow
    have hcA : cA = gT g (t - 100) ∧ comp = gT g (t1 - 100) := by
      obtain ⟨rfl, rfl, rfl, rfl⟩ := ht
      exact ⟨Option.some.inj (fA.symm.trans (hK.2 2 (gT g 2, .array .int) rfl).2), Option.some.inj (fC.symm.trans (hK.2 0 (gT g 0, .int) rfl).2)⟩
    have hH1 : HR g h' F.heap := by
      refine hH.of (fun i hi => by rw [← hnew, List.getElem?_append_left hi]) (fun i cc hi hc => ?_) hold (by rw [f1, hlen]; omega) (by omega)
      rw [← hnew, List.getElem?_append_right hi] at hc
      rcases Nat.eq_or_lt_of_le hi with hi2 | hi2
      · rw [← hi2, Nat.sub_self] at hc
        cases hc
        have ht102 : 102 ≤ t := by obtain ⟨rfl, -⟩ := ht; decide
        rw [cE_q g t _ ht102, ← hi2]
        show F.heap[gB g + h.length]? = some (vp_cell (gT g (t - 100)) _)
        rw [← hszH, f2, ← hcA.1, vp_cell_q]
        rw [vr_outer cA N H.size N, List.length_map, List.length_range]
        refine congrArg (fun z => some (arrV cA N z)) (funext fun j => congrArg va_rf ?_)
        rw [List.getD_eq_getElem?_getD, List.getElem?_map]
        by_cases hj : j < N
        · rw [if_pos hj, List.getElem?_range hj]
          show some (H.size + 1 + j) = some (gad g (h.length + 1 + j))
          rw [gad_lt g (by omega), hszH]
          congr 1
          omega
        · rw [if_neg hj, List.getElem?_eq_none (by rw [List.length_range]; omega)]
          rfl
      · obtain ⟨j, hj⟩ : ∃ j, i = h.length + 1 + j := ⟨i - h.length - 1, by omega⟩
        subst hj
        rw [show h.length + 1 + j - h.length = j + 1 by omega, List.getElem?_cons_succ, List.getElem?_replicate] at hc
        split at hc
        · rename_i hjN
          cases hc
          have hr := hrow j hjN
          have e9 : gB g + (h.length + 1 + j) = H.size + 1 + j := by omega
          obtain ⟨rfl, rfl, rfl, rfl⟩ := ht
          rw [cE_i, List.length_replicate, rep_null vI (z := 0) rfl rfl]
          show F.heap[gB g + (h.length + 1 + j)]? = some (vp_cell (gT g 0) (M, .inl fun _ => 0))
          rw [e9, hr, hcA.2]
          exact congrArg some (arrV_new _ _ _)
        · cases hc
    have hgB : gB g ≤ H.size := by omega
    have hS1 : va_S (gA g) s.heap F.heap (locs ++ (List.range N).map fun j => ⟨T.heap.size, j⟩) := by
      refine ⟨by rw [f1]; have := hS.1; omega, fun x x1 x2 => (hold x (Nat.lt_of_lt_of_le x1 hS.1)).trans (hS.2.1 x x1 x2), fun l hl => ?_⟩
      rcases List.mem_append.mp hl with hl | hl
      · exact hS.2.2 l hl
      · obtain ⟨z, -, rfl⟩ := List.mem_map.mp hl
        show gB g ≤ T.heap.size
        rw [hT]
        exact hgB
    have kk2 := q.2 p e' R s m args below meth c F.heap (locs ++ (List.range N).map fun j => ⟨T.heap.size, j⟩) ls C hH1 hS1 hL (by omega) (by omega)
    have e3 : cv g (.ref h.length) = .ref T.heap.size := by
      show Value.ref (gad g h.length) = _
      rw [gad_lt g (by omega), hT, hszH]
    rw [ec, es, List.map_cons, e3] at kk2
    obtain ⟨t2, a1, b1⟩ := kk2 F rfl X'
    exact ⟨t2, step t2 a1, b1⟩
  · cases e1
end YG
