/-! THE LAW'S BEGINNING, CHAINED -/
theorem chain5 {β : Type} {A : Option (Nat × xH)} {f g : Nat → xH → Option xH} {B C : xH → Option (Nat × xH)} {K : Nat → Nat → Nat → xH → Option β} {H1 H2 H3 H4 H5 : xH} {a b c : Nat} (q1 : A = some (a, H1)) (i1 : a < H1.length) (q2 : f a H1 = some H2) (q3 : B H2 = some (b, H3)) (i3 : b < H3.length) (q4 : g b H3 = some H4) (q5 : C H4 = some (c, H5)) :
    (A.bind fun r1 => (ic r1.2 r1.1 (f r1.1 r1.2)).bind fun h2 => (B h2).bind fun r3 => (ic r3.2 r3.1 (g r3.1 r3.2)).bind fun h4 => (C h4).bind fun r5 => K r1.1 r3.1 r5.1 r5.2) = K a b c H5 := by
  subst q1
  simp only [Option.bind_some, ic, if_pos i1, q2, q3, if_pos i3, q4, q5]
theorem e9_len : ((9, f9 9) :: R9_9 : xH).length = 168 := by rw [List.length_cons, R9_9_len]
theorem bq1 : nwC [] (9, dv_X9) = some (0, mS [(9, dv_X9)] mu00) := nwC_s (sh := []) (μ := mu00) (Z00 0) rfl (by decide)
theorem bq2 : f_X9_init 0 (mS [(9, dv_X9)] mu00) = some (mS ((9, f9 9) :: R9_9) mu9) := c_X9_init (Z00 1)
theorem bq3 : nwC (mS ((9, f9 9) :: R9_9) mu9) (10, dv_X10) = some (168, mS (((9, f9 9) :: R9_9) ++ [(10, dv_X10)]) mu9) := by
  rw [nwC_s (by rw [e9_len]; exact mu9_Z) rfl (by rw [e9_len]; decide), e9_len]
theorem bq5 : nwJ (mS shM mu0) 1 = some (532, mem mu0) := by
  rw [nwJ_s (n := 1) (k := 1) (by rw [shM_len]; exact mu0_Z) rfl (by decide) (by rw [shM_len]; decide), shM_len, shI_eq]
theorem bq4a : f_X10_begins 168 0 1 1 (mS shM (st mu9 168 5 (-1))) = some (mS shM mu0) := c_X10_begins (r := 0) mdOK_M (by omega)
theorem bq4 : f_X10_init 168 (mS (((9, f9 9) :: R9_9) ++ [(10, dv_X10)]) mu9) = some (mS shM mu0) := by
  rw [c_X10_alloc e9_len (mu9_Z.mono (by omega))]
  have h := bq4a
  have hT := (mdOK_spec mdOK_M).1.1
  unfold shM at h hT ⊢
  rw [h, vc_m hT]
  simp only [Option.bind_some]
theorem law_begin {β : Type} (K : Nat → Nat → Nat → xH → Option β) : ((nwC [] (9, dv_X9)).bind fun r1 =>
  (ic r1.2 r1.1 (f_X9_init r1.1 r1.2)).bind fun h2 =>
  (nwC h2 (10, dv_X10)).bind fun r3 =>
  (ic r3.2 r3.1 (f_X10_init r3.1 r3.2)).bind fun h4 =>
  (nwJ h4 1).bind fun r5 => K r1.1 r3.1 r5.1 r5.2) = K 0 168 532 (mem mu0) :=
  chain5 (f := f_X9_init) (g := f_X10_init) (B := fun h => nwC h (10, dv_X10)) (C := fun h => nwJ h 1) bq1 (by rw [mS_len]; decide) bq2 bq3 (by rw [mS_len, List.length_append, e9_len]; decide) bq4 bq5
theorem f_law_start (S : List Int32) : f_L_law S [] = f_L_L23 S 0 168 532 5000 0 (mem mu0) 0 :=
  law_begin fun a b c d => f_L_L23 S a b c 5000 0 d 0
