/-! String.length, String.charAt on the claim's constants: the JDK's own methods, walked -/
section XK
variable {g : xG} {D : xD} {h0 : xH} {x : xR} {pc : Nat} {loc : xL} {st : List Value} {h : xH} {cl : Bool} {ex : Nat}
theorem gad_c (g : xG) (k : Nat) : cv g (.ref (1000000 + k)) = .ref (gS g k) := by
  show Value.ref (gad g (1000000 + k)) = _
  rw [gad, if_neg (by omega), Nat.add_sub_cancel_left]
theorem X.getCval {j : Nat} (hj : j < sLen.length) (hl : Cond.fieldLink RJ0 9 "java/lang/String" "value" "[B" ∈ lw_gd) (ho : (dy D).cls = RJ0) (d : decode (dc D) pc = .ok (.getfield 9, 3)) (k : X g D h0 x (pc + 3) loc (.ref (1000000 + (101 + j)) :: st) h cl ex) : X g D h0 x pc loc (.ref (1000000 + (1 + j)) :: st) h cl ex := by
  intro p e R s m args below meth c H locs ls C hH hS hL h1 h2
  obtain ⟨hx, hb, -, hown⟩ := C.1
  rw [ho] at hown
  have kk := k p e R s m args below meth c H locs ls C hH hS hL h1 h2
  rw [List.map_cons, gad_c] at kk ⊢
  exact vk_getf hx hb (C.2.2.2.1.1.2.1.1 j hj).2.2.1 hS hown (C.2.1 _ (gd_in hl)) (fun _ q => q) d kk
theorem X.getCcod {j : Nat} (hj : j < sLen.length) (hl : Cond.fieldLink RJ0 15 "java/lang/String" "coder" "B" ∈ lw_gd) (ho : (dy D).cls = RJ0) (d : decode (dc D) pc = .ok (.getfield 15, 3)) (k : X g D h0 x (pc + 3) loc (.int 0 :: st) h cl ex) : X g D h0 x pc loc (.ref (1000000 + (1 + j)) :: st) h cl ex := by
  intro p e R s m args below meth c H locs ls C hH hS hL h1 h2
  obtain ⟨hx, hb, -, hown⟩ := C.1
  rw [ho] at hown
  have kk := k p e R s m args below meth c H locs ls C hH hS hL h1 h2
  rw [List.map_cons] at kk ⊢
  rw [gad_c]
  exact vk_getf hx hb (C.2.2.2.1.1.2.1.1 j hj).2.1 hS hown (C.2.1 _ (gd_in hl)) (fun _ q => q) d kk
theorem X.getsCS (hl : Cond.fieldLink RJ0 38 "java/lang/String" "COMPACT_STRINGS" "Z" ∈ lw_gd) (ho : (dy D).cls = RJ0) (d : decode (dc D) pc = .ok (.getstatic 38, 3)) (k : X g D h0 x (pc + 3) loc (.int 1 :: st) h cl ex) : X g D h0 x pc loc st h cl ex := by
  intro p e R s m args below meth c H locs ls C hH hS hL h1 h2
  obtain ⟨hx, hb, -, hown⟩ := C.1
  rw [ho] at hown
  exact va_gets hx hb C.2.2.2.1.1.2.1.2.2.2.2.1 hS hown (C.2.1 _ (gd_in hl)) (fun _ q => q) d (k p e R s m args below meth c H locs ls C hH hS hL h1 h2)
theorem X.getsF (hl : Cond.fieldLink RJ0 1053 "jdk/internal/util/Preconditions" "SIOOBE_FORMATTER" "Ljava/util/function/BiFunction;" ∈ lw_gd) (ho : (dy D).cls = RJ0) (d : decode (dc D) pc = .ok (.getstatic 1053, 3)) (k : ∀ o : Option Nat, X g D h0 x (pc + 3) loc (rv o :: st) h cl ex) : X g D h0 x pc loc st h cl ex := by
  intro p e R s m args below meth c H locs ls C hH hS hL h1 h2
  obtain ⟨hx, hb, -, hown⟩ := C.1
  rw [ho] at hown
  rcases C.2.2.2.1.1.2.1.2.2.2.2.2 with hf | hf
  · exact va_gets hx hb hf hS hown (C.2.1 _ (gd_in hl)) (fun _ q => q) d (k none p e R s m args below meth c H locs ls C hH hS hL h1 h2)
  · have kk := k (some (1000000 + 200)) p e R s m args below meth c H locs ls C hH hS hL h1 h2
    rw [List.map_cons, show cv g (rv (some (1000000 + 200))) = .ref (gS g 200) from gad_c g 200] at kk
    exact va_gets hx hb hf hS hown (C.2.1 _ (gd_in hl)) (fun _ q => q) d kk
theorem X.alenC {j : Nat} (hj : j < sLen.length) (d : decode (dc D) pc = .ok (.arraylength, 1)) (k : X g D h0 x (pc + 1) loc (.int (Int32.ofNat (sLen.getD j 0)) :: st) h cl ex) : X g D h0 x pc loc (.ref (1000000 + (101 + j)) :: st) h cl ex := by
  intro p e R s m args below meth c H locs ls C hH hS hL h1 h2
  rw [List.map_cons, gad_c]
  exact va_tlen C.1.1 C.1.2.1 (C.2.2.2.1.1.2.1.1 j hj).2.2.2 hS rfl d (k p e R s m args below meth c H locs ls C hH hS hL h1 h2)
theorem X.balC {j : Nat} {i : Int32} (hj : j < sLen.length) (hi : vp_in i (sLen.getD j 0)) (d : decode (dc D) pc = .ok (.baload, 1)) (k : X g D h0 x (pc + 1) loc (.int ((sByt.getD j []).getD i.toNatClampNeg 0) :: st) h cl ex) : X g D h0 x pc loc (.int i :: .ref (1000000 + (101 + j)) :: st) h cl ex := by
  intro p e R s m args below meth c H locs ls C hH hS hL h1 h2
  rw [List.map_cons, List.map_cons, gad_c]
  exact va_tb C.1.1 C.1.2.1 (C.2.2.2.1.1.2.1.1 j hj).2.2.2 hS hi rfl d (k p e R s m args below meth c H locs ls C hH hS hL h1 h2)
theorem X.breturn {v : Int32} (hr : dr D = some .byte) (hv : v.toInt8.toInt32 = v) (d : decode (dc D) pc = .ok (.ireturn, 1)) : X g D h0 (.inl (some (.int v)), h, ex) pc loc [.int v] h cl ex := by
  intro p e R s m args below meth c H locs ls C hH hS hL h1 h2
  exact vx_ret (W.zret C.1.1 C.1.2.1 (C.2.2.1.1.trans hr) (show Value.int v.toInt8.toInt32 = .int v by rw [hv]) (fun t ht _ => ⟨⟨_, rfl, rfl, by rw [ht]; exact hH⟩, hS.F ht⟩) hS.2.2 d C.2.2.1.2.1)
end XK
theorem xRuns.VC {g : xG} {D D' : xD} {h0 : xH} {x x' : xR} {pc : Nat} {loc : xL} {st st0 As : List Value} {h : xH} {cl cl' : Bool} {ex idx n j : Nat} {own : String} (hj : j < sLen.length) (hl : xLnk own idx (dy D') ∨ xNst own idx (dy D')) (ho : (dy D).cls = own) (hc : xCal D' n) (hv : xVir D') (hd : dd D' + 1 ≤ dd D) (hcn : (dy D').cls = "java/lang/String") (hn : As.length = n) (hst : st0 = As.reverse ++ .ref (1000000 + (1 + j)) :: st) (hrm : (st.map Value.category).sum ≤ 8)
    (hM : XM g D' (.ref (1000000 + (1 + j)) :: As) h cl' x') (hcl : cl' = false → cl = false ∧ ex = 0) (hle : xle (xh x') (ex + xe x') x) (d : decode (dc D) pc = .ok (.invokevirtual idx, 3)) : xRuns g D h0 x pc loc st0 st h cl ex x' := by
  intro p e R s m args below meth c H locs ls C hH hS hL h1 h2 sz
  obtain ⟨hx, hb, hml, hown⟩ := C.1
  rw [ho] at hown
  have hK := C.2.2.2.1.1
  have ea := gad_c g (1 + j)
  have hp : PreV s H (dy D').cls (gS g (1 + j)) (xP g (.ref (1000000 + (1 + j)) :: As) h cl') (As.map (cv g)) := by
    refine ⟨xP_blind g _ h cl', ?_, fun U hU hW => ?_⟩
    · obtain ⟨cell, q1, q2, q3, -⟩ := (hK.2.1.1 j hj).1.kept hS.2.1
      exact ⟨cell, q1, q2, by rw [hcn]; exact q3⟩
    · have := xP_at (As := .ref (1000000 + (1 + j)) :: As) hK hS hH (xcl_size hcl C.2.2.2.1.2.2 hH h1 sz) hU hW
      rw [List.map_cons, ea] at this
      exact this
  have es : st0.map (cv g) = (As.map (cv g)).reverse ++ .ref (gS g (1 + j)) :: st.map (cv g) := by rw [hst, List.map_append, List.map_cons, ea, List.map_reverse]
  have hG : GoodIn (dw D) (dw D') := hc.gi
  have hwd : ∀ w, w ∈ lw_gd → w.before args s = true := fun w hw => C.2.1 w (gd_in hw)
  have hf := xRuns.hf C h1 h2 ⟨hM.1, hM.2.1⟩ hle
  have hR := xRuns.hR (h := h) (x' := x') C hd hc.2.2.2.2
  rw [es]
  rcases hl with hl | ⟨host, hl⟩
  · exact vx_runV (As := As.map (cv g)) (nL := dn D) ⟨hx, hb, hml, hown, C.2.1⟩ hM.2.2 ⟨callB_of n C.2.1 hG hc.eq rfl rfl (hwd _ hc.2.2.1) (hwd _ hl) hc.2.2.2.1 hR, hwd _ hv.1, hwd _ hv.2⟩ hp rfl (by rw [List.length_map]; exact hn) hL.1.1 rfl (lv_room (xrm hrm)) d hf
  · exact vx_runVN (As := As.map (cv g)) (nL := dn D) ⟨hx, hb, hml, hown, C.2.1⟩ hM.2.2 ⟨va_cnB n C.2.1 hG hc.eq rfl rfl (hK.1.2.1 _ hl) (hwd _ hc.2.2.1) hc.2.2.2.1 hR, hwd _ hv.1, hwd _ hv.2⟩ hp rfl (by rw [List.length_map]; exact hn) hL.1.1 rfl (lv_room (xrm hrm)) d hf
def DJ0_coder_7d493 : xD := (yJ0_coder_7d493, cJ0_coder_7d493, 1, (some .byte), [], 1)
theorem cal_J0_coder_7d493 : xCal DJ0_coder_7d493 0 := ⟨rfl, gdm 747 (by decide +kernel) rfl, gdm 118 (by decide +kernel) rfl, (by decide +kernel), Nat.le_of_ble_eq_true rfl⟩
theorem vir_J0_coder_7d493 : xVir DJ0_coder_7d493 := ⟨gdm 745 (by decide +kernel) rfl, gdm 746 (by decide +kernel) rfl⟩
theorem dJ0_coder_7d493_0 : decode (dc DJ0_coder_7d493) 0 = .ok (.getstatic 38, 3) := by decide +kernel
theorem dJ0_coder_7d493_3 : decode (dc DJ0_coder_7d493) 3 = .ok (.ifCond .eq 10, 3) := by decide +kernel
theorem dJ0_coder_7d493_6 : decode (dc DJ0_coder_7d493) 6 = .ok (.aload_n 0, 1) := by decide +kernel
theorem dJ0_coder_7d493_7 : decode (dc DJ0_coder_7d493) 7 = .ok (.getfield 15, 3) := by decide +kernel
theorem dJ0_coder_7d493_10 : decode (dc DJ0_coder_7d493) 10 = .ok (.goto 4, 3) := by decide +kernel
theorem dJ0_coder_7d493_13 : decode (dc DJ0_coder_7d493) 13 = .ok (.iconst 1, 1) := by decide +kernel
theorem dJ0_coder_7d493_14 : decode (dc DJ0_coder_7d493) 14 = .ok (.ireturn, 1) := by decide +kernel
def DJ0_isLatin1_aae02 : xD := (yJ0_isLatin1_aae02, cJ0_isLatin1_aae02, 1, (some .boolean), [], 1)
theorem cal_J0_isLatin1_aae02 : xCal DJ0_isLatin1_aae02 0 := ⟨rfl, gdm 757 (by decide +kernel) rfl, gdm 118 (by decide +kernel) rfl, (by decide +kernel), Nat.le_of_ble_eq_true rfl⟩
theorem vir_J0_isLatin1_aae02 : xVir DJ0_isLatin1_aae02 := ⟨gdm 755 (by decide +kernel) rfl, gdm 756 (by decide +kernel) rfl⟩
theorem dJ0_isLatin1_aae02_0 : decode (dc DJ0_isLatin1_aae02) 0 = .ok (.getstatic 38, 3) := by decide +kernel
theorem dJ0_isLatin1_aae02_3 : decode (dc DJ0_isLatin1_aae02) 3 = .ok (.ifCond .eq 14, 3) := by decide +kernel
theorem dJ0_isLatin1_aae02_6 : decode (dc DJ0_isLatin1_aae02) 6 = .ok (.aload_n 0, 1) := by decide +kernel
theorem dJ0_isLatin1_aae02_7 : decode (dc DJ0_isLatin1_aae02) 7 = .ok (.getfield 15, 3) := by decide +kernel
theorem dJ0_isLatin1_aae02_10 : decode (dc DJ0_isLatin1_aae02) 10 = .ok (.ifCond .ne 7, 3) := by decide +kernel
theorem dJ0_isLatin1_aae02_13 : decode (dc DJ0_isLatin1_aae02) 13 = .ok (.iconst 1, 1) := by decide +kernel
theorem dJ0_isLatin1_aae02_14 : decode (dc DJ0_isLatin1_aae02) 14 = .ok (.goto 4, 3) := by decide +kernel
theorem dJ0_isLatin1_aae02_17 : decode (dc DJ0_isLatin1_aae02) 17 = .ok (.iconst 0, 1) := by decide +kernel
theorem dJ0_isLatin1_aae02_18 : decode (dc DJ0_isLatin1_aae02) 18 = .ok (.ireturn, 1) := by decide +kernel
def DJ0_length_8abf5 : xD := (yJ0_length_8abf5, cJ0_length_8abf5, 1, (some .int), [], 3)
theorem cal_J0_length_8abf5 : xCal DJ0_length_8abf5 0 := ⟨rfl, gdm 743 (by decide +kernel) rfl, gdm 118 (by decide +kernel) rfl, (by decide +kernel), Nat.le_of_ble_eq_true rfl⟩
theorem vir_J0_length_8abf5 : xVir DJ0_length_8abf5 := ⟨gdm 741 (by decide +kernel) rfl, gdm 742 (by decide +kernel) rfl⟩
theorem dJ0_length_8abf5_0 : decode (dc DJ0_length_8abf5) 0 = .ok (.aload_n 0, 1) := by decide +kernel
theorem dJ0_length_8abf5_1 : decode (dc DJ0_length_8abf5) 1 = .ok (.getfield 9, 3) := by decide +kernel
theorem dJ0_length_8abf5_4 : decode (dc DJ0_length_8abf5) 4 = .ok (.arraylength, 1) := by decide +kernel
theorem dJ0_length_8abf5_5 : decode (dc DJ0_length_8abf5) 5 = .ok (.aload_n 0, 1) := by decide +kernel
theorem dJ0_length_8abf5_6 : decode (dc DJ0_length_8abf5) 6 = .ok (.invokevirtual 335, 3) := by decide +kernel
theorem dJ0_length_8abf5_9 : decode (dc DJ0_length_8abf5) 9 = .ok (.ishr, 1) := by decide +kernel
theorem dJ0_length_8abf5_10 : decode (dc DJ0_length_8abf5) 10 = .ok (.ireturn, 1) := by decide +kernel
def DJ3_checkIndex_8e157 : xD := (yJ3_checkIndex_8e157, cJ3_checkIndex_8e157, 3, (some .int), [], 1)
theorem cal_J3_checkIndex_8e157 : xCal DJ3_checkIndex_8e157 3 := ⟨rfl, gdm 768 (by decide +kernel) rfl, gdm 120 (by decide +kernel) rfl, (by decide +kernel), Nat.le_of_ble_eq_true rfl⟩
theorem sta_J3_checkIndex_8e157 : xSta DJ3_checkIndex_8e157 := gdm 767 (by decide +kernel) rfl
theorem dJ3_checkIndex_8e157_0 : decode (dc DJ3_checkIndex_8e157) 0 = .ok (.iload_n 0, 1) := by decide +kernel
theorem dJ3_checkIndex_8e157_1 : decode (dc DJ3_checkIndex_8e157) 1 = .ok (.ifCond .lt 8, 3) := by decide +kernel
theorem dJ3_checkIndex_8e157_4 : decode (dc DJ3_checkIndex_8e157) 4 = .ok (.iload_n 0, 1) := by decide +kernel
theorem dJ3_checkIndex_8e157_5 : decode (dc DJ3_checkIndex_8e157) 5 = .ok (.iload_n 1, 1) := by decide +kernel
theorem dJ3_checkIndex_8e157_6 : decode (dc DJ3_checkIndex_8e157) 6 = .ok (.if_icmp .lt 10, 3) := by decide +kernel
theorem dJ3_checkIndex_8e157_9 : decode (dc DJ3_checkIndex_8e157) 9 = .ok (.aload_n 2, 1) := by decide +kernel
theorem dJ3_checkIndex_8e157_10 : decode (dc DJ3_checkIndex_8e157) 10 = .ok (.iload_n 0, 1) := by decide +kernel
theorem dJ3_checkIndex_8e157_11 : decode (dc DJ3_checkIndex_8e157) 11 = .ok (.iload_n 1, 1) := by decide +kernel
theorem dJ3_checkIndex_8e157_12 : decode (dc DJ3_checkIndex_8e157) 12 = .ok (.invokestatic 95, 3) := by decide +kernel
theorem dJ3_checkIndex_8e157_15 : decode (dc DJ3_checkIndex_8e157) 15 = .ok (.athrow, 1) := by decide +kernel
theorem dJ3_checkIndex_8e157_16 : decode (dc DJ3_checkIndex_8e157) 16 = .ok (.iload_n 0, 1) := by decide +kernel
theorem dJ3_checkIndex_8e157_17 : decode (dc DJ3_checkIndex_8e157) 17 = .ok (.ireturn, 1) := by decide +kernel
def DJ0_checkIndex_df160 : xD := (yJ0_checkIndex_df160, cJ0_checkIndex_df160, 2, none, [], 2)
theorem cal_J0_checkIndex_df160 : xCal DJ0_checkIndex_df160 2 := ⟨rfl, gdm 763 (by decide +kernel) rfl, gdm 118 (by decide +kernel) rfl, (by decide +kernel), Nat.le_of_ble_eq_true rfl⟩
theorem sta_J0_checkIndex_df160 : xSta DJ0_checkIndex_df160 := gdm 762 (by decide +kernel) rfl
theorem dJ0_checkIndex_df160_0 : decode (dc DJ0_checkIndex_df160) 0 = .ok (.iload_n 0, 1) := by decide +kernel
theorem dJ0_checkIndex_df160_1 : decode (dc DJ0_checkIndex_df160) 1 = .ok (.iload_n 1, 1) := by decide +kernel
theorem dJ0_checkIndex_df160_2 : decode (dc DJ0_checkIndex_df160) 2 = .ok (.getstatic 1053, 3) := by decide +kernel
theorem dJ0_checkIndex_df160_5 : decode (dc DJ0_checkIndex_df160) 5 = .ok (.invokestatic 1059, 3) := by decide +kernel
theorem dJ0_checkIndex_df160_8 : decode (dc DJ0_checkIndex_df160) 8 = .ok (.pop, 1) := by decide +kernel
theorem dJ0_checkIndex_df160_9 : decode (dc DJ0_checkIndex_df160) 9 = .ok (.return_, 1) := by decide +kernel
def DJ1_charAt_3b067 : xD := (yJ1_charAt_3b067, cJ1_charAt_3b067, 2, (some .char), [], 3)
theorem cal_J1_charAt_3b067 : xCal DJ1_charAt_3b067 2 := ⟨rfl, gdm 760 (by decide +kernel) rfl, gdm 119 (by decide +kernel) rfl, (by decide +kernel), Nat.le_of_ble_eq_true rfl⟩
theorem sta_J1_charAt_3b067 : xSta DJ1_charAt_3b067 := gdm 759 (by decide +kernel) rfl
theorem dJ1_charAt_3b067_0 : decode (dc DJ1_charAt_3b067) 0 = .ok (.iload_n 1, 1) := by decide +kernel
theorem dJ1_charAt_3b067_1 : decode (dc DJ1_charAt_3b067) 1 = .ok (.aload_n 0, 1) := by decide +kernel
theorem dJ1_charAt_3b067_2 : decode (dc DJ1_charAt_3b067) 2 = .ok (.arraylength, 1) := by decide +kernel
theorem dJ1_charAt_3b067_3 : decode (dc DJ1_charAt_3b067) 3 = .ok (.invokestatic 9, 3) := by decide +kernel
theorem dJ1_charAt_3b067_6 : decode (dc DJ1_charAt_3b067) 6 = .ok (.aload_n 0, 1) := by decide +kernel
theorem dJ1_charAt_3b067_7 : decode (dc DJ1_charAt_3b067) 7 = .ok (.iload_n 1, 1) := by decide +kernel
theorem dJ1_charAt_3b067_8 : decode (dc DJ1_charAt_3b067) 8 = .ok (.baload, 1) := by decide +kernel
theorem dJ1_charAt_3b067_9 : decode (dc DJ1_charAt_3b067) 9 = .ok (.sipush 255, 3) := by decide +kernel
theorem dJ1_charAt_3b067_12 : decode (dc DJ1_charAt_3b067) 12 = .ok (.iand, 1) := by decide +kernel
theorem dJ1_charAt_3b067_13 : decode (dc DJ1_charAt_3b067) 13 = .ok (.i2c, 1) := by decide +kernel
theorem dJ1_charAt_3b067_14 : decode (dc DJ1_charAt_3b067) 14 = .ok (.ireturn, 1) := by decide +kernel
def DJ0_charAt_5068e : xD := (yJ0_charAt_5068e, cJ0_charAt_5068e, 2, (some .char), [], 5)
theorem cal_J0_charAt_5068e : xCal DJ0_charAt_5068e 1 := ⟨rfl, gdm 753 (by decide +kernel) rfl, gdm 118 (by decide +kernel) rfl, (by decide +kernel), Nat.le_of_ble_eq_true rfl⟩
theorem vir_J0_charAt_5068e : xVir DJ0_charAt_5068e := ⟨gdm 751 (by decide +kernel) rfl, gdm 752 (by decide +kernel) rfl⟩
theorem dJ0_charAt_5068e_0 : decode (dc DJ0_charAt_5068e) 0 = .ok (.aload_n 0, 1) := by decide +kernel
theorem dJ0_charAt_5068e_1 : decode (dc DJ0_charAt_5068e) 1 = .ok (.invokevirtual 492, 3) := by decide +kernel
theorem dJ0_charAt_5068e_4 : decode (dc DJ0_charAt_5068e) 4 = .ok (.ifCond .eq 12, 3) := by decide +kernel
theorem dJ0_charAt_5068e_7 : decode (dc DJ0_charAt_5068e) 7 = .ok (.aload_n 0, 1) := by decide +kernel
theorem dJ0_charAt_5068e_8 : decode (dc DJ0_charAt_5068e) 8 = .ok (.getfield 9, 3) := by decide +kernel
theorem dJ0_charAt_5068e_11 : decode (dc DJ0_charAt_5068e) 11 = .ok (.iload_n 1, 1) := by decide +kernel
theorem dJ0_charAt_5068e_12 : decode (dc DJ0_charAt_5068e) 12 = .ok (.invokestatic 495, 3) := by decide +kernel
theorem dJ0_charAt_5068e_15 : decode (dc DJ0_charAt_5068e) 15 = .ok (.ireturn, 1) := by decide +kernel
theorem dJ0_charAt_5068e_16 : decode (dc DJ0_charAt_5068e) 16 = .ok (.aload_n 0, 1) := by decide +kernel
theorem dJ0_charAt_5068e_17 : decode (dc DJ0_charAt_5068e) 17 = .ok (.getfield 9, 3) := by decide +kernel
theorem dJ0_charAt_5068e_20 : decode (dc DJ0_charAt_5068e) 20 = .ok (.iload_n 1, 1) := by decide +kernel
theorem dJ0_charAt_5068e_21 : decode (dc DJ0_charAt_5068e) 21 = .ok (.invokestatic 498, 3) := by decide +kernel
theorem dJ0_charAt_5068e_24 : decode (dc DJ0_charAt_5068e) 24 = .ok (.ireturn, 1) := by decide +kernel
theorem lk_J0_335 : xLnk RJ0 335 yJ0_coder_7d493 ∨ xNst RJ0 335 yJ0_coder_7d493 := Or.inl (gdm 744 (by decide +kernel) rfl)
theorem lk_J0_492 : xLnk RJ0 492 yJ0_isLatin1_aae02 ∨ xNst RJ0 492 yJ0_isLatin1_aae02 := Or.inl (gdm 754 (by decide +kernel) rfl)
theorem lk_J0_495 : xLnk RJ0 495 yJ1_charAt_3b067 ∨ xNst RJ0 495 yJ1_charAt_3b067 := Or.inl (gdm 758 (by decide +kernel) rfl)
theorem lk_J0_1059 : xLnk RJ0 1059 yJ3_checkIndex_8e157 ∨ xNst RJ0 1059 yJ3_checkIndex_8e157 := Or.inl (gdm 766 (by decide +kernel) rfl)
theorem lk_J1_9 : xLnk RJ1 9 yJ0_checkIndex_df160 ∨ xNst RJ1 9 yJ0_checkIndex_df160 := Or.inl (gdm 761 (by decide +kernel) rfl)
theorem fl_J0_9 : Cond.fieldLink RJ0 9 "java/lang/String" "value" "[B" ∈ lw_gd := gdm 1543 (by decide +kernel) rfl
theorem fl_J0_15 : Cond.fieldLink RJ0 15 "java/lang/String" "coder" "B" ∈ lw_gd := gdm 1544 (by decide +kernel) rfl
theorem fl_J0_38 : Cond.fieldLink RJ0 38 "java/lang/String" "COMPACT_STRINGS" "Z" ∈ lw_gd := gdm 748 (by decide +kernel) rfl
theorem fl_J0_1053 : Cond.fieldLink RJ0 1053 "jdk/internal/util/Preconditions" "SIOOBE_FORMATTER" "Ljava/util/function/BiFunction;" ∈ lw_gd := gdm 764 (by decide +kernel) rfl
theorem s_shr : ∀ j, j < sLen.length → (Int32.ofNat (sLen.getD j 0)) >>> ((0 : Int32) &&& 31) = Int32.ofNat (sLen.getD j 0) := by decide +kernel
theorem s_chr : ∀ j, j < sLen.length → ∀ k, k < sLen.getD j 0 → (((sByt.getD j []).getD k 0 &&& 255).toUInt32 % 65536).toInt32 = (sByt.getD j []).getD k 0 ∧ ((sByt.getD j []).getD k 0).toUInt32.toUInt16.toUInt32.toInt32 = (sByt.getD j []).getD k 0 := by decide +kernel
theorem s_sm : ∀ j, j < sLen.length → sLen.getD j 0 < 100 := by decide +kernel
theorem m_coder {g : xG} {j : Nat} (hj : j < sLen.length) (h : xH) (cl : Bool) : XM g DJ0_coder_7d493 [.ref (1000000 + (1 + j))] h cl (.inl (some (.int 0)), h, 0) := by
  refine XM.of (by decide +kernel) rfl (Nat.le_of_ble_eq_true rfl) (Nat.le_refl _) (Nat.le_refl _) ?_
  refine X.getsCS fl_J0_38 rfl dJ0_coder_7d493_0 ?_
  refine X.ifeq 13 (by decide) dJ0_coder_7d493_3 (fun q => absurd q (by decide)) (fun _ => ?_)
  refine X.aloadn (a := 1000000 + (1 + j)) rfl dJ0_coder_7d493_6 ?_
  refine X.getCcod hj fl_J0_15 rfl dJ0_coder_7d493_7 ?_
  refine X.goto 14 (by decide) dJ0_coder_7d493_10 ?_
  exact X.breturn rfl (by decide) dJ0_coder_7d493_14
theorem m_isLatin1 {g : xG} {j : Nat} (hj : j < sLen.length) (h : xH) (cl : Bool) : XM g DJ0_isLatin1_aae02 [.ref (1000000 + (1 + j))] h cl (.inl (some (.int 1)), h, 0) := by
  refine XM.of (by decide +kernel) rfl (Nat.le_of_ble_eq_true rfl) (Nat.le_refl _) (Nat.le_refl _) ?_
  refine X.getsCS fl_J0_38 rfl dJ0_isLatin1_aae02_0 ?_
  refine X.ifeq 17 (by decide) dJ0_isLatin1_aae02_3 (fun q => absurd q (by decide)) (fun _ => ?_)
  refine X.aloadn (a := 1000000 + (1 + j)) rfl dJ0_isLatin1_aae02_6 ?_
  refine X.getCcod hj fl_J0_15 rfl dJ0_isLatin1_aae02_7 ?_
  refine X.ifne 17 (by decide) dJ0_isLatin1_aae02_10 (fun q => absurd rfl q) (fun _ => ?_)
  refine X.ic (v := 1) (by decide +kernel) dJ0_isLatin1_aae02_13 ?_
  refine X.goto 18 (by decide) dJ0_isLatin1_aae02_14 ?_
  exact X.zreturn rfl (by decide) dJ0_isLatin1_aae02_18
theorem m_length {g : xG} {j : Nat} (hj : j < sLen.length) (h : xH) (cl : Bool) : XM g DJ0_length_8abf5 [.ref (1000000 + (1 + j))] h cl (.inl (some (.int (Int32.ofNat (sLen.getD j 0)))), h, 0) := by
  refine XM.of (by decide +kernel) rfl (Nat.le_of_ble_eq_true rfl) (Nat.le_refl _) (Nat.le_refl _) ?_
  refine X.aloadn (a := 1000000 + (1 + j)) rfl dJ0_length_8abf5_0 ?_
  refine X.getCval hj fl_J0_9 rfl dJ0_length_8abf5_1 ?_
  refine X.alenC hj dJ0_length_8abf5_4 ?_
  refine X.aloadn (a := 1000000 + (1 + j)) rfl dJ0_length_8abf5_5 ?_
  refine X.runs (x' := (.inl (some (.int 0)), h, 0)) (xRuns.VC (As := []) hj lk_J0_335 rfl cal_J0_coder_7d493 vir_J0_coder_7d493 (Nat.le_of_ble_eq_true rfl) rfl rfl rfl (Nat.le_of_ble_eq_true rfl) (m_coder hj h cl) (fun z => ⟨z, rfl⟩) ⟨Nat.le_refl _, Nat.le_refl _, Nat.le_refl _⟩ dJ0_length_8abf5_6) ⟨Nat.le_refl _, Nat.le_refl _⟩ rfl ?_
  refine X.ishr (a := Int32.ofNat (sLen.getD j 0)) (b := 0) dJ0_length_8abf5_9 ?_
  rw [s_shr j hj]
  exact X.ireturn rfl dJ0_length_8abf5_10
theorem m_check3 {g : xG} {i n : Int32} {o : Option Nat} (h0 : ¬ i < 0) (h1 : i < n) (h : xH) (cl : Bool) : XM g DJ3_checkIndex_8e157 [.int i, .int n, rv o] h cl (.inl (some (.int i)), h, 0) := by
  refine XM.of (by decide +kernel) rfl (by cases o <;> exact Nat.le_of_ble_eq_true rfl) (Nat.le_refl _) (Nat.le_refl _) ?_
  have e : xloc (dn DJ3_checkIndex_8e157) [.int i, .int n, rv o] = [some (.int i), some (.int n), some (rv o)] := by cases o <;> rfl
  rw [e]
  refine X.iloadn (a := i) rfl dJ3_checkIndex_8e157_0 ?_
  refine X.iflt 9 (by decide) dJ3_checkIndex_8e157_1 (fun q => absurd q h0) (fun _ => ?_)
  refine X.iloadn (a := i) rfl dJ3_checkIndex_8e157_4 ?_
  refine X.iloadn (a := n) rfl dJ3_checkIndex_8e157_5 ?_
  refine X.cmplt 16 (by decide) dJ3_checkIndex_8e157_6 (fun _ => ?_) (fun q => absurd h1 q)
  refine X.iloadn (a := i) rfl dJ3_checkIndex_8e157_16 ?_
  exact X.ireturn rfl dJ3_checkIndex_8e157_17
theorem m_check0 {g : xG} {i n : Int32} (h0 : ¬ i < 0) (h1 : i < n) (h : xH) (cl : Bool) : XM g DJ0_checkIndex_df160 [.int i, .int n] h cl (.inl none, h, 0) := by
  refine XM.of (by decide +kernel) rfl (Nat.le_of_ble_eq_true rfl) (Nat.le_refl _) (Nat.le_refl _) ?_
  refine X.iloadn (a := i) rfl dJ0_checkIndex_df160_0 ?_
  refine X.iloadn (a := n) rfl dJ0_checkIndex_df160_1 ?_
  refine X.getsF fl_J0_1053 rfl dJ0_checkIndex_df160_2 (fun o => ?_)
  refine X.runs (x' := (.inl (some (.int i)), h, 0)) (xRuns.S (As := [.int i, .int n, rv o]) lk_J0_1059 rfl cal_J3_checkIndex_8e157 sta_J3_checkIndex_8e157 (Nat.le_of_ble_eq_true rfl) rfl rfl (Nat.le_of_ble_eq_true rfl) (m_check3 h0 h1 h cl) (fun z => ⟨z, rfl⟩) ⟨Nat.le_refl _, Nat.le_refl _, Nat.le_refl _⟩ dJ0_checkIndex_df160_5) ⟨Nat.le_refl _, Nat.le_refl _⟩ rfl ?_
  refine X.pop (v := .int i) rfl dJ0_checkIndex_df160_8 ?_
  exact X.vreturn rfl dJ0_checkIndex_df160_9
theorem ain_lt {i : Int32} {n : Nat} (hn : n < 2 ^ 31) (h : ain i n) : i < Int32.ofNat n := by
  obtain ⟨k, hk, rfl⟩ := nI_of h.1
  have h2 := h.2
  rw [nI_clamp hk] at h2
  exact nI_lt h2 hn
theorem m_latin1 {g : xG} {j : Nat} {i : Int32} (hj : j < sLen.length) (hi : ain i (sLen.getD j 0)) (h : xH) (cl : Bool) : XM g DJ1_charAt_3b067 [.ref (1000000 + (101 + j)), .int i] h cl (.inl (some (.int ((sByt.getD j []).getD i.toNatClampNeg 0))), h, 0) := by
  have hlt := ain_lt (Nat.lt_trans (s_sm j hj) (by decide)) hi
  refine XM.of (by decide +kernel) rfl (Nat.le_of_ble_eq_true rfl) (Nat.le_refl _) (Nat.le_refl _) ?_
  refine X.iloadn (a := i) rfl dJ1_charAt_3b067_0 ?_
  refine X.aloadn (a := 1000000 + (101 + j)) rfl dJ1_charAt_3b067_1 ?_
  refine X.alenC hj dJ1_charAt_3b067_2 ?_
  refine X.runs (x' := (.inl none, h, 0)) (xRuns.S (As := [.int i, .int (Int32.ofNat (sLen.getD j 0))]) lk_J1_9 rfl cal_J0_checkIndex_df160 sta_J0_checkIndex_df160 (Nat.le_of_ble_eq_true rfl) rfl rfl (Nat.le_of_ble_eq_true rfl) (m_check0 hi.1 hlt h cl) (fun z => ⟨z, rfl⟩) ⟨Nat.le_refl _, Nat.le_refl _, Nat.le_refl _⟩ dJ1_charAt_3b067_3) ⟨Nat.le_refl _, Nat.le_refl _⟩ rfl ?_
  refine X.aloadn (a := 1000000 + (101 + j)) rfl dJ1_charAt_3b067_6 ?_
  refine X.iloadn (a := i) rfl dJ1_charAt_3b067_7 ?_
  refine X.balC hj (ain_in hi) dJ1_charAt_3b067_8 ?_
  refine X.sp (v := 255) (by decide +kernel) dJ1_charAt_3b067_9 ?_
  refine X.iand dJ1_charAt_3b067_12 ?_
  refine X.i2c dJ1_charAt_3b067_13 ?_
  rw [(s_chr j hj _ hi.2).1]
  exact X.creturn rfl (s_chr j hj _ hi.2).2 dJ1_charAt_3b067_14
theorem m_charAt {g : xG} {j : Nat} {i : Int32} (hj : j < sLen.length) (hi : ain i (sLen.getD j 0)) (h : xH) (cl : Bool) : XM g DJ0_charAt_5068e [.ref (1000000 + (1 + j)), .int i] h cl (.inl (some (.int ((sByt.getD j []).getD i.toNatClampNeg 0))), h, 0) := by
  refine XM.of (by decide +kernel) rfl (Nat.le_of_ble_eq_true rfl) (Nat.le_refl _) (Nat.le_refl _) ?_
  refine X.aloadn (a := 1000000 + (1 + j)) rfl dJ0_charAt_5068e_0 ?_
  refine X.runs (x' := (.inl (some (.int 1)), h, 0)) (xRuns.VC (As := []) hj lk_J0_492 rfl cal_J0_isLatin1_aae02 vir_J0_isLatin1_aae02 (Nat.le_of_ble_eq_true rfl) rfl rfl rfl (Nat.le_of_ble_eq_true rfl) (m_isLatin1 hj h cl) (fun z => ⟨z, rfl⟩) ⟨Nat.le_refl _, Nat.le_refl _, Nat.le_refl _⟩ dJ0_charAt_5068e_1) ⟨Nat.le_refl _, Nat.le_refl _⟩ rfl ?_
  refine X.ifeq (a := 1) 16 (by decide) dJ0_charAt_5068e_4 (fun q => absurd q (by decide)) (fun _ => ?_)
  refine X.aloadn (a := 1000000 + (1 + j)) rfl dJ0_charAt_5068e_7 ?_
  refine X.getCval hj fl_J0_9 rfl dJ0_charAt_5068e_8 ?_
  refine X.iloadn (a := i) rfl dJ0_charAt_5068e_11 ?_
  refine X.runs (x' := (.inl (some (.int ((sByt.getD j []).getD i.toNatClampNeg 0))), h, 0)) (xRuns.S (As := [.ref (1000000 + (101 + j)), .int i]) lk_J0_495 rfl cal_J1_charAt_3b067 sta_J1_charAt_3b067 (Nat.le_of_ble_eq_true rfl) rfl rfl (Nat.le_of_ble_eq_true rfl) (m_latin1 hj hi h cl) (fun z => ⟨z, rfl⟩) ⟨Nat.le_refl _, Nat.le_refl _, Nat.le_refl _⟩ dJ0_charAt_5068e_12) ⟨Nat.le_refl _, Nat.le_refl _⟩ rfl ?_
  exact X.creturn rfl (s_chr j hj _ hi.2).2 dJ0_charAt_5068e_15
section YR
variable {ρ : Type} {g : xG} {D : xD} {h0 : xH} {cl : Bool} {inj : ρ → xR} {o : Option ρ} {pc : Nat} {loc : xL} {st : List Value} {h : xH}
theorem s_pl {a n : Nat} (h1 : 1000001 ≤ a) (h2 : a < 1000001 + n) : ∃ j, j < n ∧ a = 1000000 + (1 + j) ∧ a - 1000001 = j := ⟨a - 1000001, by omega, by omega, rfl⟩
theorem Y.str_J0_length_8abf5 {own : String} {idx a : Nat} {K : Int32 × xH → Option ρ} (w : xLnk own idx yJ0_length_8abf5 ∨ xNst own idx yJ0_length_8abf5) (ho : (dy D).cls = own) (hlev : 4 ≤ dd D) (hrm : (st.map Value.category).sum ≤ 8) (d : decode (dc D) pc = .ok (.invokevirtual idx, 3)) (kk : ∀ r, Y g D h0 cl inj (K r) (pc + 3) loc (.int r.1 :: st) r.2) : Y g D h0 cl inj ((f_J0_length_8abf5 a h).bind K) pc loc (.ref a :: st) h := by
  intro r e
  obtain ⟨r', e1, e2⟩ := Option.bind_eq_some_iff.mp e
  unfold f_J0_length_8abf5 at e1
  split at e1
  · rename_i q
    obtain ⟨j, hj, rfl, ej⟩ := s_pl q.1 q.2
    rw [ej] at e1
    cases e1
    have q := kk _ r e2
    exact ⟨q.1, X.runs (x' := (.inl (some (.int (Int32.ofNat (sLen.getD j 0)))), h, 0)) (xRuns.VC (As := []) hj w ho cal_J0_length_8abf5 vir_J0_length_8abf5 hlev rfl rfl rfl hrm (m_length hj h cl) (fun z => ⟨z, rfl⟩) q.1 d) ⟨Nat.le_refl _, Nat.le_refl _⟩ rfl q.2⟩
  · cases e1
theorem Y.str_J0_charAt_5068e {own : String} {idx a : Nat} {i : Int32} {K : Int32 × xH → Option ρ} (w : xLnk own idx yJ0_charAt_5068e ∨ xNst own idx yJ0_charAt_5068e) (ho : (dy D).cls = own) (hlev : 6 ≤ dd D) (hrm : (st.map Value.category).sum ≤ 8) (d : decode (dc D) pc = .ok (.invokevirtual idx, 3)) (kk : ∀ r, Y g D h0 cl inj (K r) (pc + 3) loc (.int r.1 :: st) r.2) : Y g D h0 cl inj ((f_J0_charAt_5068e a i h).bind K) pc loc (.int i :: .ref a :: st) h := by
  intro r e
  obtain ⟨r', e1, e2⟩ := Option.bind_eq_some_iff.mp e
  unfold f_J0_charAt_5068e at e1
  split at e1
  · rename_i q
    obtain ⟨j, hj, rfl, ej⟩ := s_pl q.1.1 q.1.2
    obtain ⟨-, hi⟩ := q
    rw [ej] at e1 hi
    cases e1
    have q := kk _ r e2
    exact ⟨q.1, X.runs (x' := (.inl (some (.int ((sByt.getD j []).getD i.toNatClampNeg 0))), h, 0)) (xRuns.VC (As := [.int i]) hj w ho cal_J0_charAt_5068e vir_J0_charAt_5068e hlev rfl rfl rfl hrm (m_charAt hj hi h cl) (fun z => ⟨z, rfl⟩) q.1 d) ⟨Nat.le_refl _, Nat.le_refl _⟩ rfl q.2⟩
  · cases e1
end YR
def tsf {β : Type} (F : Nat → β) (k : Nat) : β := F k
theorem Y.tswf {ρ : Type} {g : xG} {D : xD} {h0 : xH} {cl : Bool} {inj : ρ → xR} {o : Option ρ} {pc : Nat} {loc : xL} {st : List Value} {h : xH} {dflt lo hi : Int} {offs : Array Int} {len : Nat} {a : Int32} {F : Nat → Option ρ} {dt : Nat} (htd : (pc : Int) + dflt = (dt : Int)) (d : decode (dc D) pc = .ok (.tableswitch dflt lo hi offs, len)) (hsz : offs.size = (hi - lo + 1).toNat) (kd : Y g D h0 cl inj o dt loc st h)
    (ki : ∀ k, k < offs.size → ∃ (tgt : Nat) (off : Int), offs[k]? = some off ∧ (pc : Int) + off = (tgt : Int) ∧ Y g D h0 cl inj (F k) tgt loc st h) : Y g D h0 cl inj (if a.toInt < lo ∨ hi < a.toInt then o else tsf F (a.toInt - lo).toNat) pc loc (.int a :: st) h := Y.tsw htd d hsz kd ki
def nwAll (l : List Cond) : Bool := l.all (fun w => decide (w ∈ lw_tbl) && (goodWord w || lw_isNw w))
theorem nw_tabs {w : Cond} (h : lw_isNw w = true) : w.onTables = true := by
  cases w <;> first | rfl | cases h
theorem dm_hat {g : xG} {D : xD} {L : List Cond} {args : Array Value} {s : State} (h : nwAll L = true) (hts : ∀ w ∈ dw D, w.before args s = true) (hK : KK g s) : ∀ w ∈ L, w.before args s = true := by
  intro w hw
  have := List.all_eq_true.mp h w hw
  simp only [Bool.and_eq_true, decide_eq_true_eq, Bool.or_eq_true] at this
  rcases this.2 with q | q
  · exact hts w (gd_in (List.mem_filter.mpr ⟨this.1, q⟩))
  · exact va_Nw.use (nw_tabs q) (hK.1.2.1 w (List.mem_filter.mpr ⟨this.1, q⟩))
theorem X.throwSW {g : xG} {D : xD} {h0 : xH} {pc : Nat} {loc : xL} {st : List Value} {h : xH} {cl : Bool} {ex : Nat} {own cls text : String} {names : List String} {ik is ic j : Nat} (ho : (dy D).cls = own) (ht : dh D = [])
    (hcls : Bundle.fit cls = true) (hnames : ∀ n ∈ names, Bundle.fit n = true) (hk : Cond.classLink own ik cls ∈ lw_gd) (hini : Cond.initialized cls ∈ lw_gd) (hstr : (own, is, text, j) ∈ sCon) (hat : nwAll (vx_atS own ic cls names) = true) (hgood : ∀ w ∈ Cond.classLink own ik cls :: Cond.initialized cls :: vx_atS own ic cls names, vx_ot w = true)
    (d0 : decode (dc D) pc = .ok (.new ik, 3)) (d3 : decode (dc D) (pc + 3) = .ok (.dup, 1)) (d4 : decode (dc D) (pc + 4) = .ok (.ldc_w is, 3)) (d7 : decode (dc D) (pc + 7) = .ok (.invokespecial ic, 3)) (d10 : decode (dc D) (pc + 10) = .ok (.athrow, 1))
    (hf : names.length + 3 < dd D) (hl : (st.map Value.category).sum + (13 * (names.length + 1) + 43) ≤ 60 * dd D) : X g D h0 (.inr cls, h, ex + 1) pc loc st h cl ex := by
  intro p e R s m args below meth c H locs ls C hH hS hL h1 h2
  obtain ⟨hx, hb, hml, hown⟩ := C.1
  rw [ho] at hown
  have hK := C.2.2.2.1.1
  have hwd : ∀ w, w ∈ lw_gd → w.before args s = true := fun w hw => C.2.1 w (gd_in hw)
  have htab : ∀ z ∈ c.exceptionTable.toList, covers z (pc + 10) = false := by
    rw [C.2.2.1.2.2.1, ht]
    intro z hz
    cases hz
  have qf := C.2.2.2.2.1
  have ql := C.2.2.2.2.2.1
  have qc : nC h0 h (ex + 1) ≤ R.cells := C.2.2.2.2.2.2.1
  have qs : nS h0 h (ex + 1) ≤ R.slots := C.2.2.2.2.2.2.2
  have ec : nC h0 h ex + 1 = nC h0 h (ex + 1) := by unfold nC; omega
  have es : nS h0 h ex + 6 = nS h0 h (ex + 1) := by unfold nS; omega
  have hl2 : ((st.map (cv g)).map fun v => v.category).sum + (13 * (names.length + 1) + 43) ≤ R.locals := by
    have : ((st.map (cv g)).map fun v => v.category).sum = (st.map Value.category).sum := by
      rw [List.map_map]
      have : ((fun v => Value.category v) ∘ cv g) = Value.category := funext fun v => cv_cat g v
      rw [this]
    omega
  refine vx_throwSW (A := gA g) hx hb hK.2.2 hown hcls hnames (hwd _ hk) (hwd _ hini) (hK.1.2.2.1 _ hstr) (dm_hat hat C.2.1 hK) hgood hK.2.1.2.2.1 hK.2.1.2.2.2.1 hS (hL.1.1.trans hml.symm) d0 d3 d4 d7 d10 htab (by omega) hl2 (by rw [ec]; exact qc) (by rw [es]; exact qs) C.2.2.1.2.1 ?_ hS.2.2 (by show _ ≤ nC h0 h (ex + 1); omega) (by show _ ≤ nS h0 h (ex + 1); omega)
  intro t hvm hsz hkp
  refine ⟨⟨rfl, hH.1.kept (fun k9 x hx => hkp x.1 ((hH.1 k9 x hx).lt)), Nat.le_trans hH.2.1 hsz, hH.2.2⟩, Nat.le_trans hS.1 hsz, fun q q1 q2 => ?_⟩
  rw [hkp q (Nat.lt_of_lt_of_le q1 hS.1)]
  exact hS.2.1 q q1 q2
