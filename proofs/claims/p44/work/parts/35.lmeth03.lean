def f_L_isBook_J1102 (s0 : Int32) (h : xH) : Option (Int32 × xH) :=
  if s0 = 0 ∨ s0 = 1 then some (s0, h) else none
theorem y_L_isBook_J1102 {g : xG} {h0 : xH} (s0 : Int32) (h : xH) : Y g DL_isBook h0 false iI (f_L_isBook_J1102 s0 h) 1102 [none, none, none, none, none, none, none, none, none, none, none, none, none, none, none, none, none, none, none] [.int s0] h := by
  unfold f_L_isBook_J1102
  exact Y.zreturn rfl dL_isBook_1102
def f_L_isBook_J1101 (h : xH) : Option (Int32 × xH) :=
  f_L_isBook_J1102 (0 : Int32) h
theorem y_L_isBook_J1101 {g : xG} {h0 : xH} (h : xH) : Y g DL_isBook h0 false iI (f_L_isBook_J1101 h) 1101 [none, none, none, none, none, none, none, none, none, none, none, none, none, none, none, none, none, none, none] [] h := by
  unfold f_L_isBook_J1101
  refine Y.op (pc' := 1102) (fun _ => X.ic ki_0 dL_isBook_1101) ?_
  exact y_L_isBook_J1102 (0 : Int32) h
def f_L_isBook_J878 (x0 : Nat) (x1 : Nat) (x2 : Int32) (x3 : Nat) (x4 : Int32) (x5 : Int32) (x7 : Int32) (x8 : Nat) (x11 : Nat) (x12 : Int32) (s0 : Int32) (s1 : Int32) (h : xH) : Option (Int32 × xH) :=
  if s0 = s1 then
    (f_L_told x0 (5 : Int32) h).bind fun r1 =>
    (gI r1.2 10 x1 3).bind fun v2 =>
    if r1.1 = v2 then
      (f_L_told x0 (6 : Int32) r1.2).bind fun r3 =>
      (gI r3.2 10 x1 4).bind fun v4 =>
      if r3.1 = v4 then
        (f_L_told x0 (7 : Int32) r3.2).bind fun r5 =>
        if r5.1 = x4 then
          (f_L_told x0 (8 : Int32) r5.2).bind fun r6 =>
          if r6.1 = x5 then
            (f_L_told x0 (9 : Int32) r6.2).bind fun r7 =>
            if r7.1 = x7 then
              (vc r7.2 9 x0 (f_X9_most x0 r7.2)).bind fun r8 =>
              if r8.1 = x2 then
                (f_L_reached x0 (0 : Int32) r8.2).bind fun r9 =>
                (aI r9.2 x3 (0 : Int32)).bind fun v10 =>
                if r9.1 = v10 then
                  (f_L_reached x0 (1 : Int32) r9.2).bind fun r11 =>
                  (aI r11.2 x3 (1 : Int32)).bind fun v12 =>
                  if r11.1 = v12 then
                    (f_L_cover x0 (0 : Int32) r11.2).bind fun r13 =>
                    (gI r13.2 10 x1 3).bind fun v14 =>
                    (aI r13.2 x3 (0 : Int32)).bind fun v15 =>
                    if r13.1 = (v14 &&& (v15 ^^^ (-1 : Int32))) then
                      (f_L_cover x0 (1 : Int32) r13.2).bind fun r16 =>
                      (aI r16.2 x3 (1 : Int32)).bind fun v17 =>
                      if r16.1 = v17 then
                        (f_L_hall x0 (0 : Int32) r16.2).bind fun r18 =>
                        if r18.1 = (x12 - x2) then
                          (f_L_hall x0 (1 : Int32) r18.2).bind fun r19 =>
                          (aI r19.2 x3 (0 : Int32)).bind fun v20 =>
                          if r19.1 = v20 then
                            (f_L_fitMany x0 (1 : Int32) r19.2).bind fun r21 =>
                            (aI r21.2 x8 (1 : Int32)).bind fun v22 =>
                            if r21.1 = v22 then
                              (f_L_fitMany x0 (2 : Int32) r21.2).bind fun r23 =>
                              (aI r23.2 x8 (2 : Int32)).bind fun v24 =>
                              if r23.1 = v24 then
                                (f_L_fitMany x0 (3 : Int32) r23.2).bind fun r25 =>
                                (aI r25.2 x8 (3 : Int32)).bind fun v26 =>
                                if r25.1 = v26 then
                                  (vc r25.2 9 x0 (f_X9_many x0 r25.2)).bind fun r27 =>
                                  (aJ r27.2 x11 (0 : Int32)).bind fun v28 =>
                                  if (lg_cmp r27.1 v28) = (0 : Int32) then
                                    (f_L_cheap x0 (0 : Int32) r27.2).bind fun r29 =>
                                    (aJ r29.2 x11 (1 : Int32)).bind fun v30 =>
                                    if (lg_cmp r29.1.toInt64 v30) = (0 : Int32) then
                                      (f_L_cheap x0 (1 : Int32) r29.2).bind fun r31 =>
                                      (aJ r31.2 x11 (2 : Int32)).bind fun v32 =>
                                      if (lg_cmp r31.1.toInt64 v32) = (0 : Int32) then
                                        f_L_isBook_J1102 (1 : Int32) r31.2
                                      else
                                        f_L_isBook_J1101 r31.2
                                    else
                                      f_L_isBook_J1101 r29.2
                                  else
                                    f_L_isBook_J1101 r27.2
                                else
                                  f_L_isBook_J1101 r25.2
                              else
                                f_L_isBook_J1101 r23.2
                            else
                              f_L_isBook_J1101 r21.2
                          else
                            f_L_isBook_J1101 r19.2
                        else
                          f_L_isBook_J1101 r18.2
                      else
                        f_L_isBook_J1101 r16.2
                    else
                      f_L_isBook_J1101 r13.2
                  else
                    f_L_isBook_J1101 r11.2
                else
                  f_L_isBook_J1101 r9.2
              else
                f_L_isBook_J1101 r8.2
            else
              f_L_isBook_J1101 r7.2
          else
            f_L_isBook_J1101 r6.2
        else
          f_L_isBook_J1101 r5.2
      else
        f_L_isBook_J1101 r3.2
    else
      f_L_isBook_J1101 r1.2
  else
    f_L_isBook_J1101 h
theorem y_L_isBook_J878 {g : xG} {h0 : xH} (x0 : Nat) (x1 : Nat) (x2 : Int32) (x3 : Nat) (x4 : Int32) (x5 : Int32) (x7 : Int32) (x8 : Nat) (x11 : Nat) (x12 : Int32) (s0 : Int32) (s1 : Int32) (h : xH) : Y g DL_isBook h0 false iI (f_L_isBook_J878 x0 x1 x2 x3 x4 x5 x7 x8 x11 x12 s0 s1 h) 878 [some (.ref x0), some (.ref x1), some (.int x2), some (.ref x3), some (.int x4), some (.int x5), none, some (.int x7), some (.ref x8), none, none, some (.ref x11), some (.int x12), none, none, none, none, none, none] [.int s1, .int s0] h := by
  unfold f_L_isBook_J878
  refine Y.cmpne 1101 (by decide) dL_isBook_878 ?_ ?_
  · exact Y.fg (y_L_isBook_J1101 h) trivial
  · refine Y.op (pc' := 882) (fun _ => X.aloadn rfl dL_isBook_881) ?_
    refine Y.op (pc' := 883) (fun _ => X.ic ki_5 dL_isBook_882) ?_
    refine Y.callSWi (As := [.ref x0, .int (5 : Int32)]) lkw_L_told rfl calw_L_told staw_L_told (Nat.le_of_ble_eq_true rfl) rfl rfl (Nat.le_of_ble_eq_true rfl) dL_isBook_883 (fun _ e => m_L_told x0 (5 : Int32) h _ e) (fun r1 => ?_)
    refine Y.op (pc' := 887) (fun _ => X.aloadn rfl dL_isBook_886) ?_
    refine Y.getI fd_L_147 rfl dL_isBook_887 (fun v2 => ?_)
    refine Y.cmpne 1101 (by decide) dL_isBook_890 ?_ ?_
    · exact Y.fg (y_L_isBook_J1101 r1.2) trivial
    · refine Y.op (pc' := 894) (fun _ => X.aloadn rfl dL_isBook_893) ?_
      refine Y.op (pc' := 896) (fun _ => X.bp kb_6 dL_isBook_894) ?_
      refine Y.callSWi (As := [.ref x0, .int (6 : Int32)]) lkw_L_told rfl calw_L_told staw_L_told (Nat.le_of_ble_eq_true rfl) rfl rfl (Nat.le_of_ble_eq_true rfl) dL_isBook_896 (fun _ e => m_L_told x0 (6 : Int32) r1.2 _ e) (fun r3 => ?_)
      refine Y.op (pc' := 900) (fun _ => X.aloadn rfl dL_isBook_899) ?_
      refine Y.getI fd_L_150 rfl dL_isBook_900 (fun v4 => ?_)
      refine Y.cmpne 1101 (by decide) dL_isBook_903 ?_ ?_
      · exact Y.fg (y_L_isBook_J1101 r3.2) trivial
      · refine Y.op (pc' := 907) (fun _ => X.aloadn rfl dL_isBook_906) ?_
        refine Y.op (pc' := 909) (fun _ => X.bp kb_7 dL_isBook_907) ?_
        refine Y.callSWi (As := [.ref x0, .int (7 : Int32)]) lkw_L_told rfl calw_L_told staw_L_told (Nat.le_of_ble_eq_true rfl) rfl rfl (Nat.le_of_ble_eq_true rfl) dL_isBook_909 (fun _ e => m_L_told x0 (7 : Int32) r3.2 _ e) (fun r5 => ?_)
        refine Y.op (pc' := 914) (fun _ => X.iload rfl dL_isBook_912) ?_
        refine Y.cmpne 1101 (by decide) dL_isBook_914 ?_ ?_
        · exact Y.fg (y_L_isBook_J1101 r5.2) trivial
        · refine Y.op (pc' := 918) (fun _ => X.aloadn rfl dL_isBook_917) ?_
          refine Y.op (pc' := 920) (fun _ => X.bp kb_8 dL_isBook_918) ?_
          refine Y.callSWi (As := [.ref x0, .int (8 : Int32)]) lkw_L_told rfl calw_L_told staw_L_told (Nat.le_of_ble_eq_true rfl) rfl rfl (Nat.le_of_ble_eq_true rfl) dL_isBook_920 (fun _ e => m_L_told x0 (8 : Int32) r5.2 _ e) (fun r6 => ?_)
          refine Y.op (pc' := 925) (fun _ => X.iload rfl dL_isBook_923) ?_
          refine Y.cmpne 1101 (by decide) dL_isBook_925 ?_ ?_
          · exact Y.fg (y_L_isBook_J1101 r6.2) trivial
          · refine Y.op (pc' := 929) (fun _ => X.aloadn rfl dL_isBook_928) ?_
            refine Y.op (pc' := 931) (fun _ => X.bp kb_9 dL_isBook_929) ?_
            refine Y.callSWi (As := [.ref x0, .int (9 : Int32)]) lkw_L_told rfl calw_L_told staw_L_told (Nat.le_of_ble_eq_true rfl) rfl rfl (Nat.le_of_ble_eq_true rfl) dL_isBook_931 (fun _ e => m_L_told x0 (9 : Int32) r6.2 _ e) (fun r7 => ?_)
            refine Y.op (pc' := 936) (fun _ => X.iload rfl dL_isBook_934) ?_
            refine Y.cmpne 1101 (by decide) dL_isBook_936 ?_ ?_
            · exact Y.fg (y_L_isBook_J1101 r7.2) trivial
            · refine Y.op (pc' := 940) (fun _ => X.aloadn rfl dL_isBook_939) ?_
              refine Y.callVi (As := []) lk_L_257 rfl cal_X9_most vir_X9_most (Nat.le_of_ble_eq_true rfl) (Nat.le_of_ble_eq_true rfl) rfl rfl rfl (Nat.le_of_ble_eq_true rfl) dL_isBook_940 (fun _ e => m_X9_most x0 r7.2 _ _ e) (fun r8 => ?_)
              refine Y.op (pc' := 944) (fun _ => X.iloadn rfl dL_isBook_943) ?_
              refine Y.cmpne 1101 (by decide) dL_isBook_944 ?_ ?_
              · exact Y.fg (y_L_isBook_J1101 r8.2) trivial
              · refine Y.op (pc' := 948) (fun _ => X.aloadn rfl dL_isBook_947) ?_
                refine Y.op (pc' := 949) (fun _ => X.ic ki_0 dL_isBook_948) ?_
                refine Y.callSWi (As := [.ref x0, .int (0 : Int32)]) lkw_L_reached rfl calw_L_reached staw_L_reached (Nat.le_of_ble_eq_true rfl) rfl rfl (Nat.le_of_ble_eq_true rfl) dL_isBook_949 (fun _ e => m_L_reached x0 (0 : Int32) r8.2 _ e) (fun r9 => ?_)
                refine Y.op (pc' := 953) (fun _ => X.aloadn rfl dL_isBook_952) ?_
                refine Y.op (pc' := 954) (fun _ => X.ic ki_0 dL_isBook_953) ?_
                refine Y.aldI dL_isBook_954 (fun v10 => ?_)
                refine Y.cmpne 1101 (by decide) dL_isBook_955 ?_ ?_
                · exact Y.fg (y_L_isBook_J1101 r9.2) trivial
                · refine Y.op (pc' := 959) (fun _ => X.aloadn rfl dL_isBook_958) ?_
                  refine Y.op (pc' := 960) (fun _ => X.ic ki_1 dL_isBook_959) ?_
                  refine Y.callSWi (As := [.ref x0, .int (1 : Int32)]) lkw_L_reached rfl calw_L_reached staw_L_reached (Nat.le_of_ble_eq_true rfl) rfl rfl (Nat.le_of_ble_eq_true rfl) dL_isBook_960 (fun _ e => m_L_reached x0 (1 : Int32) r9.2 _ e) (fun r11 => ?_)
                  refine Y.op (pc' := 964) (fun _ => X.aloadn rfl dL_isBook_963) ?_
                  refine Y.op (pc' := 965) (fun _ => X.ic ki_1 dL_isBook_964) ?_
                  refine Y.aldI dL_isBook_965 (fun v12 => ?_)
                  refine Y.cmpne 1101 (by decide) dL_isBook_966 ?_ ?_
                  · exact Y.fg (y_L_isBook_J1101 r11.2) trivial
                  · refine Y.op (pc' := 970) (fun _ => X.aloadn rfl dL_isBook_969) ?_
                    refine Y.op (pc' := 971) (fun _ => X.ic ki_0 dL_isBook_970) ?_
                    refine Y.callSWi (As := [.ref x0, .int (0 : Int32)]) lkw_L_cover rfl calw_L_cover staw_L_cover (Nat.le_of_ble_eq_true rfl) rfl rfl (Nat.le_of_ble_eq_true rfl) dL_isBook_971 (fun _ e => m_L_cover x0 (0 : Int32) r11.2 _ e) (fun r13 => ?_)
                    refine Y.op (pc' := 975) (fun _ => X.aloadn rfl dL_isBook_974) ?_
                    refine Y.getI fd_L_147 rfl dL_isBook_975 (fun v14 => ?_)
                    refine Y.op (pc' := 979) (fun _ => X.aloadn rfl dL_isBook_978) ?_
                    refine Y.op (pc' := 980) (fun _ => X.ic ki_0 dL_isBook_979) ?_
                    refine Y.aldI dL_isBook_980 (fun v15 => ?_)
                    refine Y.op (pc' := 982) (fun _ => X.ic ki_m1 dL_isBook_981) ?_
                    refine Y.op (pc' := 983) (fun _ => X.ixor dL_isBook_982) ?_
                    refine Y.op (pc' := 984) (fun _ => X.iand dL_isBook_983) ?_
                    refine Y.cmpne 1101 (by decide) dL_isBook_984 ?_ ?_
                    · exact Y.fg (y_L_isBook_J1101 r13.2) trivial
                    · refine Y.op (pc' := 988) (fun _ => X.aloadn rfl dL_isBook_987) ?_
                      refine Y.op (pc' := 989) (fun _ => X.ic ki_1 dL_isBook_988) ?_
                      refine Y.callSWi (As := [.ref x0, .int (1 : Int32)]) lkw_L_cover rfl calw_L_cover staw_L_cover (Nat.le_of_ble_eq_true rfl) rfl rfl (Nat.le_of_ble_eq_true rfl) dL_isBook_989 (fun _ e => m_L_cover x0 (1 : Int32) r13.2 _ e) (fun r16 => ?_)
                      refine Y.op (pc' := 993) (fun _ => X.aloadn rfl dL_isBook_992) ?_
                      refine Y.op (pc' := 994) (fun _ => X.ic ki_1 dL_isBook_993) ?_
                      refine Y.aldI dL_isBook_994 (fun v17 => ?_)
                      refine Y.cmpne 1101 (by decide) dL_isBook_995 ?_ ?_
                      · exact Y.fg (y_L_isBook_J1101 r16.2) trivial
                      · refine Y.op (pc' := 999) (fun _ => X.aloadn rfl dL_isBook_998) ?_
                        refine Y.op (pc' := 1000) (fun _ => X.ic ki_0 dL_isBook_999) ?_
                        refine Y.callSWi (As := [.ref x0, .int (0 : Int32)]) lkw_L_hall rfl calw_L_hall staw_L_hall (Nat.le_of_ble_eq_true rfl) rfl rfl (Nat.le_of_ble_eq_true rfl) dL_isBook_1000 (fun _ e => m_L_hall x0 (0 : Int32) r16.2 _ e) (fun r18 => ?_)
                        refine Y.op (pc' := 1005) (fun _ => X.iload rfl dL_isBook_1003) ?_
                        refine Y.op (pc' := 1006) (fun _ => X.iloadn rfl dL_isBook_1005) ?_
                        refine Y.op (pc' := 1007) (fun _ => X.isub dL_isBook_1006) ?_
                        refine Y.cmpne 1101 (by decide) dL_isBook_1007 ?_ ?_
                        · exact Y.fg (y_L_isBook_J1101 r18.2) trivial
                        · refine Y.op (pc' := 1011) (fun _ => X.aloadn rfl dL_isBook_1010) ?_
                          refine Y.op (pc' := 1012) (fun _ => X.ic ki_1 dL_isBook_1011) ?_
                          refine Y.callSWi (As := [.ref x0, .int (1 : Int32)]) lkw_L_hall rfl calw_L_hall staw_L_hall (Nat.le_of_ble_eq_true rfl) rfl rfl (Nat.le_of_ble_eq_true rfl) dL_isBook_1012 (fun _ e => m_L_hall x0 (1 : Int32) r18.2 _ e) (fun r19 => ?_)
                          refine Y.op (pc' := 1016) (fun _ => X.aloadn rfl dL_isBook_1015) ?_
                          refine Y.op (pc' := 1017) (fun _ => X.ic ki_0 dL_isBook_1016) ?_
                          refine Y.aldI dL_isBook_1017 (fun v20 => ?_)
                          refine Y.cmpne 1101 (by decide) dL_isBook_1018 ?_ ?_
                          · exact Y.fg (y_L_isBook_J1101 r19.2) trivial
                          · refine Y.op (pc' := 1022) (fun _ => X.aloadn rfl dL_isBook_1021) ?_
                            refine Y.op (pc' := 1023) (fun _ => X.ic ki_1 dL_isBook_1022) ?_
                            refine Y.callSWi (As := [.ref x0, .int (1 : Int32)]) lkw_L_fitMany rfl calw_L_fitMany staw_L_fitMany (Nat.le_of_ble_eq_true rfl) rfl rfl (Nat.le_of_ble_eq_true rfl) dL_isBook_1023 (fun _ e => m_L_fitMany x0 (1 : Int32) r19.2 _ e) (fun r21 => ?_)
                            refine Y.op (pc' := 1028) (fun _ => X.aload rfl dL_isBook_1026) ?_
                            refine Y.op (pc' := 1029) (fun _ => X.ic ki_1 dL_isBook_1028) ?_
                            refine Y.aldI dL_isBook_1029 (fun v22 => ?_)
                            refine Y.cmpne 1101 (by decide) dL_isBook_1030 ?_ ?_
                            · exact Y.fg (y_L_isBook_J1101 r21.2) trivial
                            · refine Y.op (pc' := 1034) (fun _ => X.aloadn rfl dL_isBook_1033) ?_
                              refine Y.op (pc' := 1035) (fun _ => X.ic ki_2 dL_isBook_1034) ?_
                              refine Y.callSWi (As := [.ref x0, .int (2 : Int32)]) lkw_L_fitMany rfl calw_L_fitMany staw_L_fitMany (Nat.le_of_ble_eq_true rfl) rfl rfl (Nat.le_of_ble_eq_true rfl) dL_isBook_1035 (fun _ e => m_L_fitMany x0 (2 : Int32) r21.2 _ e) (fun r23 => ?_)
                              refine Y.op (pc' := 1040) (fun _ => X.aload rfl dL_isBook_1038) ?_
                              refine Y.op (pc' := 1041) (fun _ => X.ic ki_2 dL_isBook_1040) ?_
                              refine Y.aldI dL_isBook_1041 (fun v24 => ?_)
                              refine Y.cmpne 1101 (by decide) dL_isBook_1042 ?_ ?_
                              · exact Y.fg (y_L_isBook_J1101 r23.2) trivial
                              · refine Y.op (pc' := 1046) (fun _ => X.aloadn rfl dL_isBook_1045) ?_
                                refine Y.op (pc' := 1047) (fun _ => X.ic ki_3 dL_isBook_1046) ?_
                                refine Y.callSWi (As := [.ref x0, .int (3 : Int32)]) lkw_L_fitMany rfl calw_L_fitMany staw_L_fitMany (Nat.le_of_ble_eq_true rfl) rfl rfl (Nat.le_of_ble_eq_true rfl) dL_isBook_1047 (fun _ e => m_L_fitMany x0 (3 : Int32) r23.2 _ e) (fun r25 => ?_)
                                refine Y.op (pc' := 1052) (fun _ => X.aload rfl dL_isBook_1050) ?_
                                refine Y.op (pc' := 1053) (fun _ => X.ic ki_3 dL_isBook_1052) ?_
                                refine Y.aldI dL_isBook_1053 (fun v26 => ?_)
                                refine Y.cmpne 1101 (by decide) dL_isBook_1054 ?_ ?_
                                · exact Y.fg (y_L_isBook_J1101 r25.2) trivial
                                · refine Y.op (pc' := 1058) (fun _ => X.aloadn rfl dL_isBook_1057) ?_
                                  refine Y.callVj (As := []) lk_L_267 rfl cal_X9_many vir_X9_many (Nat.le_of_ble_eq_true rfl) (Nat.le_of_ble_eq_true rfl) rfl rfl rfl (Nat.le_of_ble_eq_true rfl) dL_isBook_1058 (fun _ e => m_X9_many x0 r25.2 _ _ e) (fun r27 => ?_)
                                  refine Y.op (pc' := 1063) (fun _ => X.aload rfl dL_isBook_1061) ?_
                                  refine Y.op (pc' := 1064) (fun _ => X.ic ki_0 dL_isBook_1063) ?_
                                  refine Y.aldJ dL_isBook_1064 (fun v28 => ?_)
                                  refine Y.op (pc' := 1066) (fun _ => X.lcmp dL_isBook_1065) ?_
                                  refine Y.ifne 1101 (by decide) dL_isBook_1066 ?_ ?_
                                  · exact Y.fg (y_L_isBook_J1101 r27.2) trivial
                                  · refine Y.op (pc' := 1070) (fun _ => X.aloadn rfl dL_isBook_1069) ?_
                                    refine Y.op (pc' := 1071) (fun _ => X.ic ki_0 dL_isBook_1070) ?_
                                    refine Y.callSWi (As := [.ref x0, .int (0 : Int32)]) lkw_L_cheap rfl calw_L_cheap staw_L_cheap (Nat.le_of_ble_eq_true rfl) rfl rfl (Nat.le_of_ble_eq_true rfl) dL_isBook_1071 (fun _ e => m_L_cheap x0 (0 : Int32) r27.2 _ e) (fun r29 => ?_)
                                    refine Y.op (pc' := 1075) (fun _ => X.i2l dL_isBook_1074) ?_
                                    refine Y.op (pc' := 1077) (fun _ => X.aload rfl dL_isBook_1075) ?_
                                    refine Y.op (pc' := 1078) (fun _ => X.ic ki_1 dL_isBook_1077) ?_
                                    refine Y.aldJ dL_isBook_1078 (fun v30 => ?_)
                                    refine Y.op (pc' := 1080) (fun _ => X.lcmp dL_isBook_1079) ?_
                                    refine Y.ifne 1101 (by decide) dL_isBook_1080 ?_ ?_
                                    · exact Y.fg (y_L_isBook_J1101 r29.2) trivial
                                    · refine Y.op (pc' := 1084) (fun _ => X.aloadn rfl dL_isBook_1083) ?_
                                      refine Y.op (pc' := 1085) (fun _ => X.ic ki_1 dL_isBook_1084) ?_
                                      refine Y.callSWi (As := [.ref x0, .int (1 : Int32)]) lkw_L_cheap rfl calw_L_cheap staw_L_cheap (Nat.le_of_ble_eq_true rfl) rfl rfl (Nat.le_of_ble_eq_true rfl) dL_isBook_1085 (fun _ e => m_L_cheap x0 (1 : Int32) r29.2 _ e) (fun r31 => ?_)
                                      refine Y.op (pc' := 1089) (fun _ => X.i2l dL_isBook_1088) ?_
                                      refine Y.op (pc' := 1091) (fun _ => X.aload rfl dL_isBook_1089) ?_
                                      refine Y.op (pc' := 1092) (fun _ => X.ic ki_2 dL_isBook_1091) ?_
                                      refine Y.aldJ dL_isBook_1092 (fun v32 => ?_)
                                      refine Y.op (pc' := 1094) (fun _ => X.lcmp dL_isBook_1093) ?_
                                      refine Y.ifne 1101 (by decide) dL_isBook_1094 ?_ ?_
                                      · exact Y.fg (y_L_isBook_J1101 r31.2) trivial
                                      · refine Y.op (pc' := 1098) (fun _ => X.ic ki_1 dL_isBook_1097) ?_
                                        refine Y.op (pc' := 1102) (fun _ => X.goto 1102 (by decide) dL_isBook_1098) ?_
                                        exact Y.fg (y_L_isBook_J1102 (1 : Int32) r31.2) trivial
def f_L_isBook_J797 (x0 : Nat) (x1 : Nat) (x2 : Int32) (x3 : Nat) (x4 : Int32) (x5 : Int32) (x6 : Int32) (x7 : Int32) (x8 : Nat) (h : xH) : Option (Int32 × xH) :=
  (vc h 10 x1 (f_X10_all 40 x1 (0 : Int32) (0 : Int32) x2 h)).bind fun r1 =>
  (r1.1).bind fun b2 =>
  (gI r1.2 10 x1 3).bind fun v3 =>
  (f_J6_bitCount_0f7a4 v3 r1.2).bind fun r4 =>
  (f_L_told x0 (0 : Int32) r4.2).bind fun r5 =>
  (gI r5.2 10 x1 0).bind fun v6 =>
  if r5.1 = v6 then
    (f_L_told x0 (1 : Int32) r5.2).bind fun r7 =>
    (gI r7.2 10 x1 1).bind fun v8 =>
    if r7.1 = v8 then
      (f_L_told x0 (2 : Int32) r7.2).bind fun r9 =>
      if r9.1 = x6 then
        (f_L_told x0 (3 : Int32) r9.2).bind fun r10 =>
        (vc r10.2 10 x1 (f_X10_pairs x1 r10.2)).bind fun r11 =>
        if r10.1 = r11.1 then
          (f_L_told x0 (4 : Int32) r11.2).bind fun r12 =>
          (gI r12.2 10 x1 2).bind fun v13 =>
          if v13 = (0 : Int32) then
            f_L_isBook_J878 x0 x1 x2 x3 x4 x5 x7 x8 b2 r4.1 r12.1 (0 : Int32) r12.2
          else
            f_L_isBook_J878 x0 x1 x2 x3 x4 x5 x7 x8 b2 r4.1 r12.1 (1 : Int32) r12.2
        else
          f_L_isBook_J1101 r11.2
      else
        f_L_isBook_J1101 r9.2
    else
      f_L_isBook_J1101 r7.2
  else
    f_L_isBook_J1101 r5.2
theorem y_L_isBook_J797 {g : xG} {h0 : xH} (x0 : Nat) (x1 : Nat) (x2 : Int32) (x3 : Nat) (x4 : Int32) (x5 : Int32) (x6 : Int32) (x7 : Int32) (x8 : Nat) (h : xH) : Y g DL_isBook h0 false iI (f_L_isBook_J797 x0 x1 x2 x3 x4 x5 x6 x7 x8 h) 797 [some (.ref x0), some (.ref x1), some (.int x2), some (.ref x3), some (.int x4), some (.int x5), some (.int x6), some (.int x7), some (.ref x8), none, none, none, none, none, none, none, none, none, none] [] h := by
  unfold f_L_isBook_J797
  refine Y.op (pc' := 798) (fun _ => X.aloadn rfl dL_isBook_797) ?_
  refine Y.op (pc' := 799) (fun _ => X.ic ki_0 dL_isBook_798) ?_
  refine Y.op (pc' := 800) (fun _ => X.ic ki_0 dL_isBook_799) ?_
  refine Y.op (pc' := 801) (fun _ => X.iloadn rfl dL_isBook_800) ?_
  refine Y.callVn (As := [.int (0 : Int32), .int (0 : Int32), .int x2]) lk_L_246 rfl (cal_X10_all _) (vir_X10_all _) (Nat.le_of_ble_eq_true rfl) (Nat.le_of_ble_eq_true rfl) rfl rfl rfl (Nat.le_of_ble_eq_true rfl) dL_isBook_801 (fun _ e => m_X10_all 40 x1 (0 : Int32) (0 : Int32) x2 h _ e) (fun r1 => ?_)
  refine Y.un (fun b2 => ?_)
  refine Y.op (pc' := 806) (loc' := [some (.ref x0), some (.ref x1), some (.int x2), some (.ref x3), some (.int x4), some (.int x5), some (.int x6), some (.int x7), some (.ref x8), none, none, some (.ref b2), none, none, none, none, none, none, none]) (fun _ => X.astore (Nat.le_of_ble_eq_true rfl) rfl dL_isBook_804) ?_
  refine Y.op (pc' := 807) (fun _ => X.aloadn rfl dL_isBook_806) ?_
  refine Y.getI fd_L_147 rfl dL_isBook_807 (fun v3 => ?_)
  refine Y.callSi (As := [.int v3]) lk_L_250 rfl cal_J6_bitCount_0f7a4 sta_J6_bitCount_0f7a4 (Nat.le_of_ble_eq_true rfl) rfl rfl (Nat.le_of_ble_eq_true rfl) dL_isBook_810 (fun _ e => m_J6_bitCount_0f7a4 v3 r1.2 _ _ e) (fun r4 => ?_)
  refine Y.op (pc' := 815) (loc' := [some (.ref x0), some (.ref x1), some (.int x2), some (.ref x3), some (.int x4), some (.int x5), some (.int x6), some (.int x7), some (.ref x8), none, none, some (.ref b2), some (.int r4.1), none, none, none, none, none, none]) (fun _ => X.istore (Nat.le_of_ble_eq_true rfl) rfl dL_isBook_813) ?_
  refine Y.op (pc' := 816) (fun _ => X.aloadn rfl dL_isBook_815) ?_
  refine Y.op (pc' := 817) (fun _ => X.ic ki_0 dL_isBook_816) ?_
  refine Y.callSWi (As := [.ref x0, .int (0 : Int32)]) lkw_L_told rfl calw_L_told staw_L_told (Nat.le_of_ble_eq_true rfl) rfl rfl (Nat.le_of_ble_eq_true rfl) dL_isBook_817 (fun _ e => m_L_told x0 (0 : Int32) r4.2 _ e) (fun r5 => ?_)
  refine Y.op (pc' := 821) (fun _ => X.aloadn rfl dL_isBook_820) ?_
  refine Y.getI fd_L_138 rfl dL_isBook_821 (fun v6 => ?_)
  refine Y.cmpne 1101 (by decide) dL_isBook_824 ?_ ?_
  · exact Y.fg (y_L_isBook_J1101 r5.2) trivial
  · refine Y.op (pc' := 828) (fun _ => X.aloadn rfl dL_isBook_827) ?_
    refine Y.op (pc' := 829) (fun _ => X.ic ki_1 dL_isBook_828) ?_
    refine Y.callSWi (As := [.ref x0, .int (1 : Int32)]) lkw_L_told rfl calw_L_told staw_L_told (Nat.le_of_ble_eq_true rfl) rfl rfl (Nat.le_of_ble_eq_true rfl) dL_isBook_829 (fun _ e => m_L_told x0 (1 : Int32) r5.2 _ e) (fun r7 => ?_)
    refine Y.op (pc' := 833) (fun _ => X.aloadn rfl dL_isBook_832) ?_
    refine Y.getI fd_L_144 rfl dL_isBook_833 (fun v8 => ?_)
    refine Y.cmpne 1101 (by decide) dL_isBook_836 ?_ ?_
    · exact Y.fg (y_L_isBook_J1101 r7.2) trivial
    · refine Y.op (pc' := 840) (fun _ => X.aloadn rfl dL_isBook_839) ?_
      refine Y.op (pc' := 841) (fun _ => X.ic ki_2 dL_isBook_840) ?_
      refine Y.callSWi (As := [.ref x0, .int (2 : Int32)]) lkw_L_told rfl calw_L_told staw_L_told (Nat.le_of_ble_eq_true rfl) rfl rfl (Nat.le_of_ble_eq_true rfl) dL_isBook_841 (fun _ e => m_L_told x0 (2 : Int32) r7.2 _ e) (fun r9 => ?_)
      refine Y.op (pc' := 846) (fun _ => X.iload rfl dL_isBook_844) ?_
      refine Y.cmpne 1101 (by decide) dL_isBook_846 ?_ ?_
      · exact Y.fg (y_L_isBook_J1101 r9.2) trivial
      · refine Y.op (pc' := 850) (fun _ => X.aloadn rfl dL_isBook_849) ?_
        refine Y.op (pc' := 851) (fun _ => X.ic ki_3 dL_isBook_850) ?_
        refine Y.callSWi (As := [.ref x0, .int (3 : Int32)]) lkw_L_told rfl calw_L_told staw_L_told (Nat.le_of_ble_eq_true rfl) rfl rfl (Nat.le_of_ble_eq_true rfl) dL_isBook_851 (fun _ e => m_L_told x0 (3 : Int32) r9.2 _ e) (fun r10 => ?_)
        refine Y.op (pc' := 855) (fun _ => X.aloadn rfl dL_isBook_854) ?_
        refine Y.callVi (As := []) lk_L_208 rfl cal_X10_pairs vir_X10_pairs (Nat.le_of_ble_eq_true rfl) (Nat.le_of_ble_eq_true rfl) rfl rfl rfl (Nat.le_of_ble_eq_true rfl) dL_isBook_855 (fun _ e => m_X10_pairs x1 r10.2 _ e) (fun r11 => ?_)
        refine Y.cmpne 1101 (by decide) dL_isBook_858 ?_ ?_
        · exact Y.fg (y_L_isBook_J1101 r11.2) trivial
        · refine Y.op (pc' := 862) (fun _ => X.aloadn rfl dL_isBook_861) ?_
          refine Y.op (pc' := 863) (fun _ => X.ic ki_4 dL_isBook_862) ?_
          refine Y.callSWi (As := [.ref x0, .int (4 : Int32)]) lkw_L_told rfl calw_L_told staw_L_told (Nat.le_of_ble_eq_true rfl) rfl rfl (Nat.le_of_ble_eq_true rfl) dL_isBook_863 (fun _ e => m_L_told x0 (4 : Int32) r11.2 _ e) (fun r12 => ?_)
          refine Y.op (pc' := 867) (fun _ => X.aloadn rfl dL_isBook_866) ?_
          refine Y.getI fd_L_153 rfl dL_isBook_867 (fun v13 => ?_)
          refine Y.ifeq 877 (by decide) dL_isBook_870 ?_ ?_
          · refine Y.op (pc' := 878) (fun _ => X.ic ki_0 dL_isBook_877) ?_
            exact Y.fg (y_L_isBook_J878 x0 x1 x2 x3 x4 x5 x7 x8 b2 r4.1 r12.1 (0 : Int32) r12.2) (And.intro rfl (And.intro rfl (And.intro rfl (And.intro rfl (And.intro rfl (And.intro rfl (And.intro rfl (And.intro rfl (And.intro rfl (And.intro rfl trivial))))))))))
          · refine Y.op (pc' := 874) (fun _ => X.ic ki_1 dL_isBook_873) ?_
            refine Y.op (pc' := 878) (fun _ => X.goto 878 (by decide) dL_isBook_874) ?_
            exact Y.fg (y_L_isBook_J878 x0 x1 x2 x3 x4 x5 x7 x8 b2 r4.1 r12.1 (1 : Int32) r12.2) (And.intro rfl (And.intro rfl (And.intro rfl (And.intro rfl (And.intro rfl (And.intro rfl (And.intro rfl (And.intro rfl (And.intro rfl (And.intro rfl trivial))))))))))
def f_L_isBook_J789 (h : xH) : Option (Int32 × xH) :=
  if (0 : Int32) = 0 ∨ (0 : Int32) = 1 then some ((0 : Int32), h) else none
theorem y_L_isBook_J789 {g : xG} {h0 : xH} (h : xH) : Y g DL_isBook h0 false iI (f_L_isBook_J789 h) 789 [none, none, none, none, none, none, none, none, none, none, none, none, none, none, none, none, none, none, none] [] h := by
  unfold f_L_isBook_J789
  refine Y.op (pc' := 790) (fun _ => X.ic ki_0 dL_isBook_789) ?_
  exact Y.zreturn rfl dL_isBook_790
def f_L_isBook_L768 (kE789 : xH → Option (Int32 × xH)) (kE797 : Nat → Nat → Int32 → Nat → Int32 → Int32 → Int32 → Int32 → Nat → xH → Option (Int32 × xH)) : Nat → Nat → Nat → Int32 → Nat → Int32 → Int32 → Int32 → Int32 → Nat → Option Nat → Int32 → Int32 → xH → Option (Int32 × xH)
  | 0 => fun _ _ _ _ _ _ _ _ _ _ _ _ _ => none
  | n + 1 => fun x0 x1 x2 x3 x4 x5 x6 x7 x8 x9 x10 x11 h =>
    if x11 ≥ x10 then
      kE797 x0 x1 x2 x3 x4 x5 x6 x7 x8 h
    else
      (f_L_wayAt x0 x11 h).bind fun r1 =>
      nl x9 none (fun b2 =>
        (aI r1.2 b2 x11).bind fun v3 =>
        if r1.1 = v3 then
          lt (x11 + (1 : Int32)) fun v4 =>
          f_L_isBook_L768 kE789 kE797 n x0 x1 x2 x3 x4 x5 x6 x7 x8 (some b2) x10 v4 r1.2
        else
          kE789 r1.2)
theorem y_L_isBook_L768 {g : xG} {h0 : xH} {kE789 : xH → Option (Int32 × xH)} {kE797 : Nat → Nat → Int32 → Nat → Int32 → Int32 → Int32 → Int32 → Nat → xH → Option (Int32 × xH)} (hkE789 : ∀  (h : xH), Y g DL_isBook h0 false iI (kE789  h) 789 [none, none, none, none, none, none, none, none, none, none, none, none, none, none, none, none, none, none, none] [] h) (hkE797 : ∀ (x0 : Nat) (x1 : Nat) (x2 : Int32) (x3 : Nat) (x4 : Int32) (x5 : Int32) (x6 : Int32) (x7 : Int32) (x8 : Nat) (h : xH), Y g DL_isBook h0 false iI (kE797 x0 x1 x2 x3 x4 x5 x6 x7 x8 h) 797 [some (.ref x0), some (.ref x1), some (.int x2), some (.ref x3), some (.int x4), some (.int x5), some (.int x6), some (.int x7), some (.ref x8), none, none, none, none, none, none, none, none, none, none] [] h) : ∀ (n : Nat) (x0 : Nat) (x1 : Nat) (x2 : Int32) (x3 : Nat) (x4 : Int32) (x5 : Int32) (x6 : Int32) (x7 : Int32) (x8 : Nat) (x9 : Option Nat) (x10 : Int32) (x11 : Int32) (h : xH), Y g DL_isBook h0 false iI (f_L_isBook_L768 kE789 kE797 n x0 x1 x2 x3 x4 x5 x6 x7 x8 x9 x10 x11 h) 768 [some (.ref x0), some (.ref x1), some (.int x2), some (.ref x3), some (.int x4), some (.int x5), some (.int x6), some (.int x7), some (.ref x8), some (rv x9), some (.int x10), some (.int x11), none, none, none, none, none, none, none] [] h := by
  intro n
  induction n with
  | zero => intro x0 x1 x2 x3 x4 x5 x6 x7 x8 x9 x10 x11 h; exact Y.nothing
  | succ n ih =>
    intro x0 x1 x2 x3 x4 x5 x6 x7 x8 x9 x10 x11 h
    unfold f_L_isBook_L768
    refine Y.op (pc' := 770) (fun _ => X.iload rfl dL_isBook_768) ?_
    refine Y.op (pc' := 772) (fun _ => X.iload rfl dL_isBook_770) ?_
    refine Y.cmpge 797 (by decide) dL_isBook_772 ?_ ?_
    · exact Y.fg (hkE797 x0 x1 x2 x3 x4 x5 x6 x7 x8 h) (And.intro rfl (And.intro rfl (And.intro rfl (And.intro rfl (And.intro rfl (And.intro rfl (And.intro rfl (And.intro rfl (And.intro rfl trivial)))))))))
    · refine Y.op (pc' := 776) (fun _ => X.aloadn rfl dL_isBook_775) ?_
      refine Y.op (pc' := 778) (fun _ => X.iload rfl dL_isBook_776) ?_
      refine Y.callSWi (As := [.ref x0, .int x11]) lkw_L_wayAt rfl calw_L_wayAt staw_L_wayAt (Nat.le_of_ble_eq_true rfl) rfl rfl (Nat.le_of_ble_eq_true rfl) dL_isBook_778 (fun _ e => m_L_wayAt x0 x11 h _ e) (fun r1 => ?_)
      refine Y.op (pc' := 783) (fun _ => X.aloadO2 rfl dL_isBook_781) ?_
      refine Y.op (pc' := 785) (fun _ => X.iload rfl dL_isBook_783) ?_
      generalize x9 = o_b2
      cases o_b2 with
      | none => exact Y.nothing
      | some b2 =>
        refine Y.aldI dL_isBook_785 (fun v3 => ?_)
        refine Y.cmpeq 791 (by decide) dL_isBook_786 ?_ ?_
        · refine Y.iinc (i := 11) (loc' := fun v4 => [some (.ref x0), some (.ref x1), some (.int x2), some (.ref x3), some (.int x4), some (.int x5), some (.int x6), some (.int x7), some (.ref x8), some (.ref b2), some (.int x10), some (.int v4), none, none, none, none, none, none, none]) rfl (Nat.le_of_ble_eq_true rfl) ki_1 (fun _ => rfl) dL_isBook_791 (fun v4 => ?_)
          refine Y.op (pc' := 768) (fun _ => X.goto 768 (by decide) dL_isBook_794) ?_
          exact ih x0 x1 x2 x3 x4 x5 x6 x7 x8 (some b2) x10 v4 r1.2
        · exact Y.fg (hkE789 r1.2) trivial
def f_L_isBook_J763 (h : xH) : Option (Int32 × xH) :=
  if (0 : Int32) = 0 ∨ (0 : Int32) = 1 then some ((0 : Int32), h) else none
theorem y_L_isBook_J763 {g : xG} {h0 : xH} (h : xH) : Y g DL_isBook h0 false iI (f_L_isBook_J763 h) 763 [none, none, none, none, none, none, none, none, none, none, none, none, none, none, none, none, none, none, none] [] h := by
  unfold f_L_isBook_J763
  refine Y.op (pc' := 764) (fun _ => X.ic ki_0 dL_isBook_763) ?_
  exact Y.zreturn rfl dL_isBook_764
def f_L_isBook_J741 (x0 : Nat) (x1 : Nat) (x2 : Int32) (x3 : Nat) (x4 : Int32) (x5 : Int32) (x6 : Int32) (x7 : Int32) (x8 : Nat) (x9 : Option Nat) (s0 : Int32) (h : xH) : Option (Int32 × xH) :=
  (vc h 9 x0 (f_X9_way x0 h)).bind fun r1 =>
  if r1.1 = s0 then
    (f_L_wayAt x0 s0 r1.2).bind fun r2 =>
    if r2.1 = (-2000000096 : Int32) then
      f_L_isBook_L768 (f_L_isBook_J789) (f_L_isBook_J797) 5000 x0 x1 x2 x3 x4 x5 x6 x7 x8 x9 s0 (0 : Int32) r2.2
    else
      f_L_isBook_J763 r2.2
  else
    f_L_isBook_J763 r1.2
theorem y_L_isBook_J741 {g : xG} {h0 : xH} (x0 : Nat) (x1 : Nat) (x2 : Int32) (x3 : Nat) (x4 : Int32) (x5 : Int32) (x6 : Int32) (x7 : Int32) (x8 : Nat) (x9 : Option Nat) (s0 : Int32) (h : xH) : Y g DL_isBook h0 false iI (f_L_isBook_J741 x0 x1 x2 x3 x4 x5 x6 x7 x8 x9 s0 h) 741 [some (.ref x0), some (.ref x1), some (.int x2), some (.ref x3), some (.int x4), some (.int x5), some (.int x6), some (.int x7), some (.ref x8), some (rv x9), none, none, none, none, none, none, none, none, none] [.int s0] h := by
  unfold f_L_isBook_J741
  refine Y.op (pc' := 743) (loc' := [some (.ref x0), some (.ref x1), some (.int x2), some (.ref x3), some (.int x4), some (.int x5), some (.int x6), some (.int x7), some (.ref x8), some (rv x9), some (.int s0), none, none, none, none, none, none, none, none]) (fun _ => X.istore (Nat.le_of_ble_eq_true rfl) (by cases x9 <;> rfl) dL_isBook_741) ?_
  refine Y.op (pc' := 744) (fun _ => X.aloadn rfl dL_isBook_743) ?_
  refine Y.callVi (As := []) lk_L_242 rfl cal_X9_way vir_X9_way (Nat.le_of_ble_eq_true rfl) (Nat.le_of_ble_eq_true rfl) rfl rfl rfl (Nat.le_of_ble_eq_true rfl) dL_isBook_744 (fun _ e => m_X9_way x0 h _ _ e) (fun r1 => ?_)
  refine Y.op (pc' := 749) (fun _ => X.iload rfl dL_isBook_747) ?_
  refine Y.cmpne 763 (by decide) dL_isBook_749 ?_ ?_
  · exact Y.fg (y_L_isBook_J763 r1.2) trivial
  · refine Y.op (pc' := 753) (fun _ => X.aloadn rfl dL_isBook_752) ?_
    refine Y.op (pc' := 755) (fun _ => X.iload rfl dL_isBook_753) ?_
    refine Y.callSWi (As := [.ref x0, .int s0]) lkw_L_wayAt rfl calw_L_wayAt staw_L_wayAt (Nat.le_of_ble_eq_true rfl) rfl rfl (Nat.le_of_ble_eq_true rfl) dL_isBook_755 (fun _ e => m_L_wayAt x0 s0 r1.2 _ e) (fun r2 => ?_)
    refine Y.op (pc' := 760) (fun _ => X.ldcI wc_L_45 rfl dL_isBook_758) ?_
    refine Y.cmpeq 765 (by decide) dL_isBook_760 ?_ ?_
    · refine Y.op (pc' := 766) (fun _ => X.ic ki_0 dL_isBook_765) ?_
      refine Y.op (pc' := 768) (loc' := [some (.ref x0), some (.ref x1), some (.int x2), some (.ref x3), some (.int x4), some (.int x5), some (.int x6), some (.int x7), some (.ref x8), some (rv x9), some (.int s0), some (.int (0 : Int32)), none, none, none, none, none, none, none]) (fun _ => X.istore (Nat.le_of_ble_eq_true rfl) rfl dL_isBook_766) ?_
      exact y_L_isBook_L768 (y_L_isBook_J789) (y_L_isBook_J797) 5000 x0 x1 x2 x3 x4 x5 x6 x7 x8 x9 s0 (0 : Int32) r2.2
    · exact Y.fg (y_L_isBook_J763 r2.2) trivial
def f_L_isBook_J723 (x0 : Nat) (x1 : Nat) (x2 : Int32) (x3 : Nat) (x4 : Int32) (x5 : Int32) (x6 : Int32) (x7 : Int32) (x8 : Nat) (h : xH) : Option (Int32 × xH) :=
  (vc h 10 x1 (f_X10_theWay x1 h)).bind fun r1 =>
  nl r1.1
    (f_L_isBook_J741 x0 x1 x2 x3 x4 x5 x6 x7 x8 none (0 : Int32) r1.2)
    (fun b2 =>
    (aL r1.2 b2).bind fun v3 =>
    f_L_isBook_J741 x0 x1 x2 x3 x4 x5 x6 x7 x8 (some b2) v3 r1.2)
theorem y_L_isBook_J723 {g : xG} {h0 : xH} (x0 : Nat) (x1 : Nat) (x2 : Int32) (x3 : Nat) (x4 : Int32) (x5 : Int32) (x6 : Int32) (x7 : Int32) (x8 : Nat) (h : xH) : Y g DL_isBook h0 false iI (f_L_isBook_J723 x0 x1 x2 x3 x4 x5 x6 x7 x8 h) 723 [some (.ref x0), some (.ref x1), some (.int x2), some (.ref x3), some (.int x4), some (.int x5), some (.int x6), some (.int x7), some (.ref x8), none, none, none, none, none, none, none, none, none, none] [] h := by
  unfold f_L_isBook_J723
  refine Y.op (pc' := 724) (fun _ => X.aloadn rfl dL_isBook_723) ?_
  refine Y.callVn (As := []) lk_L_239 rfl cal_X10_theWay vir_X10_theWay (Nat.le_of_ble_eq_true rfl) (Nat.le_of_ble_eq_true rfl) rfl rfl rfl (Nat.le_of_ble_eq_true rfl) dL_isBook_724 (fun _ e => m_X10_theWay x1 h _ e) (fun r1 => ?_)
  refine Y.op (pc' := 729) (loc' := [some (.ref x0), some (.ref x1), some (.int x2), some (.ref x3), some (.int x4), some (.int x5), some (.int x6), some (.int x7), some (.ref x8), some (rv r1.1), none, none, none, none, none, none, none, none, none]) (fun _ => X.astoreO2 (Nat.le_of_ble_eq_true rfl) rfl dL_isBook_727) ?_
  refine Y.op (pc' := 731) (fun _ => X.aloadO2 rfl dL_isBook_729) ?_
  generalize r1.1 = o_b2
  cases o_b2 with
  | none =>
    refine Y.op (pc' := 734) (fun _ => X.ifnonnullN dL_isBook_731) ?_
    refine Y.op (pc' := 735) (fun _ => X.ic ki_0 dL_isBook_734) ?_
    refine Y.op (pc' := 741) (fun _ => X.goto 741 (by decide) dL_isBook_735) ?_
    exact y_L_isBook_J741 x0 x1 x2 x3 x4 x5 x6 x7 x8 none (0 : Int32) r1.2
  | some b2 =>
    refine Y.op (pc' := 738) (fun _ => X.ifnonnullR 738 (by decide) dL_isBook_731) ?_
    refine Y.op (pc' := 740) (fun _ => X.aload rfl dL_isBook_738) ?_
    refine Y.alen dL_isBook_740 (fun v3 => ?_)
    exact y_L_isBook_J741 x0 x1 x2 x3 x4 x5 x6 x7 x8 (some b2) v3 r1.2
def f_L_isBook_J715 (h : xH) : Option (Int32 × xH) :=
  if (0 : Int32) = 0 ∨ (0 : Int32) = 1 then some ((0 : Int32), h) else none
theorem y_L_isBook_J715 {g : xG} {h0 : xH} (h : xH) : Y g DL_isBook h0 false iI (f_L_isBook_J715 h) 715 [none, none, none, none, none, none, none, none, none, none, none, none, none, none, none, none, none, none, none] [] h := by
  unfold f_L_isBook_J715
  refine Y.op (pc' := 716) (fun _ => X.ic ki_0 dL_isBook_715) ?_
  exact Y.zreturn rfl dL_isBook_716
def f_L_isBook_J686 (kH : Nat → Nat → Int32 → Nat → Int32 → Int32 → Int32 → Int32 → Nat → Int32 → xH → Option (Int32 × xH)) (kE715 : xH → Option (Int32 × xH)) (kE723 : Nat → Nat → Int32 → Nat → Int32 → Int32 → Int32 → Int32 → Nat → xH → Option (Int32 × xH)) (x0 : Nat) (x1 : Nat) (x2 : Int32) (x3 : Nat) (x4 : Int32) (x5 : Int32) (x6 : Int32) (x7 : Int32) (x8 : Nat) (x9 : Int32) (x11 : Int32) (x12 : Int32) (s0 : Int32) (s1 : Int32) (h : xH) : Option (Int32 × xH) :=
  if s0 = s1 then
    (f_L_of x0 (1 : Int32) x9 (1 : Int32) h).bind fun r1 =>
    if r1.1 = x11 then
      (f_L_of x0 (1 : Int32) x9 (2 : Int32) r1.2).bind fun r2 =>
      if r2.1 = x12 then
        lt (x9 + (1 : Int32)) fun v3 =>
        kH x0 x1 x2 x3 x4 x5 x6 x7 x8 v3 r2.2
      else
        kE715 r2.2
    else
      kE715 r1.2
  else
    kE715 h
theorem y_L_isBook_J686 {g : xG} {h0 : xH} {kH : Nat → Nat → Int32 → Nat → Int32 → Int32 → Int32 → Int32 → Nat → Int32 → xH → Option (Int32 × xH)} {kE715 : xH → Option (Int32 × xH)} {kE723 : Nat → Nat → Int32 → Nat → Int32 → Int32 → Int32 → Int32 → Nat → xH → Option (Int32 × xH)} (hkH : ∀ (x0 : Nat) (x1 : Nat) (x2 : Int32) (x3 : Nat) (x4 : Int32) (x5 : Int32) (x6 : Int32) (x7 : Int32) (x8 : Nat) (x9 : Int32) (h : xH), Y g DL_isBook h0 false iI (kH x0 x1 x2 x3 x4 x5 x6 x7 x8 x9 h) 529 [some (.ref x0), some (.ref x1), some (.int x2), some (.ref x3), some (.int x4), some (.int x5), some (.int x6), some (.int x7), some (.ref x8), some (.int x9), none, none, none, none, none, none, none, none, none] [] h) (hkE715 : ∀  (h : xH), Y g DL_isBook h0 false iI (kE715  h) 715 [none, none, none, none, none, none, none, none, none, none, none, none, none, none, none, none, none, none, none] [] h) (hkE723 : ∀ (x0 : Nat) (x1 : Nat) (x2 : Int32) (x3 : Nat) (x4 : Int32) (x5 : Int32) (x6 : Int32) (x7 : Int32) (x8 : Nat) (h : xH), Y g DL_isBook h0 false iI (kE723 x0 x1 x2 x3 x4 x5 x6 x7 x8 h) 723 [some (.ref x0), some (.ref x1), some (.int x2), some (.ref x3), some (.int x4), some (.int x5), some (.int x6), some (.int x7), some (.ref x8), none, none, none, none, none, none, none, none, none, none] [] h) (x0 : Nat) (x1 : Nat) (x2 : Int32) (x3 : Nat) (x4 : Int32) (x5 : Int32) (x6 : Int32) (x7 : Int32) (x8 : Nat) (x9 : Int32) (x11 : Int32) (x12 : Int32) (s0 : Int32) (s1 : Int32) (h : xH) : Y g DL_isBook h0 false iI (f_L_isBook_J686 kH kE715 kE723 x0 x1 x2 x3 x4 x5 x6 x7 x8 x9 x11 x12 s0 s1 h) 686 [some (.ref x0), some (.ref x1), some (.int x2), some (.ref x3), some (.int x4), some (.int x5), some (.int x6), some (.int x7), some (.ref x8), some (.int x9), none, some (.int x11), some (.int x12), none, none, none, none, none, none] [.int s1, .int s0] h := by
  unfold f_L_isBook_J686
  refine Y.cmpne 715 (by decide) dL_isBook_686 ?_ ?_
  · exact Y.fg (hkE715 h) trivial
  · refine Y.op (pc' := 690) (fun _ => X.aloadn rfl dL_isBook_689) ?_
    refine Y.op (pc' := 691) (fun _ => X.ic ki_1 dL_isBook_690) ?_
    refine Y.op (pc' := 693) (fun _ => X.iload rfl dL_isBook_691) ?_
    refine Y.op (pc' := 694) (fun _ => X.ic ki_1 dL_isBook_693) ?_
    refine Y.callSWi (As := [.ref x0, .int (1 : Int32), .int x9, .int (1 : Int32)]) lkw_L_of rfl calw_L_of staw_L_of (Nat.le_of_ble_eq_true rfl) rfl rfl (Nat.le_of_ble_eq_true rfl) dL_isBook_694 (fun _ e => m_L_of x0 (1 : Int32) x9 (1 : Int32) h _ e) (fun r1 => ?_)
    refine Y.op (pc' := 699) (fun _ => X.iload rfl dL_isBook_697) ?_
    refine Y.cmpne 715 (by decide) dL_isBook_699 ?_ ?_
    · exact Y.fg (hkE715 r1.2) trivial
    · refine Y.op (pc' := 703) (fun _ => X.aloadn rfl dL_isBook_702) ?_
      refine Y.op (pc' := 704) (fun _ => X.ic ki_1 dL_isBook_703) ?_
      refine Y.op (pc' := 706) (fun _ => X.iload rfl dL_isBook_704) ?_
      refine Y.op (pc' := 707) (fun _ => X.ic ki_2 dL_isBook_706) ?_
      refine Y.callSWi (As := [.ref x0, .int (1 : Int32), .int x9, .int (2 : Int32)]) lkw_L_of rfl calw_L_of staw_L_of (Nat.le_of_ble_eq_true rfl) rfl rfl (Nat.le_of_ble_eq_true rfl) dL_isBook_707 (fun _ e => m_L_of x0 (1 : Int32) x9 (2 : Int32) r1.2 _ e) (fun r2 => ?_)
      refine Y.op (pc' := 712) (fun _ => X.iload rfl dL_isBook_710) ?_
      refine Y.cmpeq 717 (by decide) dL_isBook_712 ?_ ?_
      · refine Y.iinc (i := 9) (loc' := fun v3 => [some (.ref x0), some (.ref x1), some (.int x2), some (.ref x3), some (.int x4), some (.int x5), some (.int x6), some (.int x7), some (.ref x8), some (.int v3), none, some (.int x11), some (.int x12), none, none, none, none, none, none]) rfl (Nat.le_of_ble_eq_true rfl) ki_1 (fun _ => rfl) dL_isBook_717 (fun v3 => ?_)
        refine Y.op (pc' := 529) (fun _ => X.goto 529 (by decide) dL_isBook_720) ?_
        exact Y.fg (hkH x0 x1 x2 x3 x4 x5 x6 x7 x8 v3 r2.2) (And.intro rfl (And.intro rfl (And.intro rfl (And.intro rfl (And.intro rfl (And.intro rfl (And.intro rfl (And.intro rfl (And.intro rfl (And.intro rfl trivial))))))))))
      · exact Y.fg (hkE715 r2.2) trivial
def f_L_isBook_J649 (kH : Nat → Nat → Int32 → Nat → Int32 → Int32 → Int32 → Int32 → Nat → Int32 → xH → Option (Int32 × xH)) (kE715 : xH → Option (Int32 × xH)) (kE723 : Nat → Nat → Int32 → Nat → Int32 → Int32 → Int32 → Int32 → Nat → xH → Option (Int32 × xH)) (x0 : Nat) (x1 : Nat) (x2 : Int32) (x3 : Nat) (x4 : Int32) (x5 : Int32) (x6 : Int32) (x7 : Int32) (x8 : Nat) (x9 : Int32) (x11 : Int32) (s0 : Int32) (h : xH) : Option (Int32 × xH) :=
  (f_L_partner x0 (1 : Int32) x9 h).bind fun r1 =>
  (vc r1.2 10 x1 (f_X10_owner x1 x9 r1.2)).bind fun r2 =>
  if r1.1 = r2.1 then
    (f_L_of x0 (1 : Int32) x9 (0 : Int32) r2.2).bind fun r3 =>
    if x11 ≥ x2 then
      f_L_isBook_J686 (kH) kE715 kE723 x0 x1 x2 x3 x4 x5 x6 x7 x8 x9 x11 s0 r3.1 (0 : Int32) r3.2
    else
      f_L_isBook_J686 (kH) kE715 kE723 x0 x1 x2 x3 x4 x5 x6 x7 x8 x9 x11 s0 r3.1 (1 : Int32) r3.2
  else
    kE715 r2.2
theorem y_L_isBook_J649 {g : xG} {h0 : xH} {kH : Nat → Nat → Int32 → Nat → Int32 → Int32 → Int32 → Int32 → Nat → Int32 → xH → Option (Int32 × xH)} {kE715 : xH → Option (Int32 × xH)} {kE723 : Nat → Nat → Int32 → Nat → Int32 → Int32 → Int32 → Int32 → Nat → xH → Option (Int32 × xH)} (hkH : ∀ (x0 : Nat) (x1 : Nat) (x2 : Int32) (x3 : Nat) (x4 : Int32) (x5 : Int32) (x6 : Int32) (x7 : Int32) (x8 : Nat) (x9 : Int32) (h : xH), Y g DL_isBook h0 false iI (kH x0 x1 x2 x3 x4 x5 x6 x7 x8 x9 h) 529 [some (.ref x0), some (.ref x1), some (.int x2), some (.ref x3), some (.int x4), some (.int x5), some (.int x6), some (.int x7), some (.ref x8), some (.int x9), none, none, none, none, none, none, none, none, none] [] h) (hkE715 : ∀  (h : xH), Y g DL_isBook h0 false iI (kE715  h) 715 [none, none, none, none, none, none, none, none, none, none, none, none, none, none, none, none, none, none, none] [] h) (hkE723 : ∀ (x0 : Nat) (x1 : Nat) (x2 : Int32) (x3 : Nat) (x4 : Int32) (x5 : Int32) (x6 : Int32) (x7 : Int32) (x8 : Nat) (h : xH), Y g DL_isBook h0 false iI (kE723 x0 x1 x2 x3 x4 x5 x6 x7 x8 h) 723 [some (.ref x0), some (.ref x1), some (.int x2), some (.ref x3), some (.int x4), some (.int x5), some (.int x6), some (.int x7), some (.ref x8), none, none, none, none, none, none, none, none, none, none] [] h) (x0 : Nat) (x1 : Nat) (x2 : Int32) (x3 : Nat) (x4 : Int32) (x5 : Int32) (x6 : Int32) (x7 : Int32) (x8 : Nat) (x9 : Int32) (x11 : Int32) (s0 : Int32) (h : xH) : Y g DL_isBook h0 false iI (f_L_isBook_J649 kH kE715 kE723 x0 x1 x2 x3 x4 x5 x6 x7 x8 x9 x11 s0 h) 649 [some (.ref x0), some (.ref x1), some (.int x2), some (.ref x3), some (.int x4), some (.int x5), some (.int x6), some (.int x7), some (.ref x8), some (.int x9), none, some (.int x11), none, none, none, none, none, none, none] [.int s0] h := by
  unfold f_L_isBook_J649
  refine Y.op (pc' := 651) (loc' := [some (.ref x0), some (.ref x1), some (.int x2), some (.ref x3), some (.int x4), some (.int x5), some (.int x6), some (.int x7), some (.ref x8), some (.int x9), none, some (.int x11), some (.int s0), none, none, none, none, none, none]) (fun _ => X.istore (Nat.le_of_ble_eq_true rfl) rfl dL_isBook_649) ?_
  refine Y.op (pc' := 652) (fun _ => X.aloadn rfl dL_isBook_651) ?_
  refine Y.op (pc' := 653) (fun _ => X.ic ki_1 dL_isBook_652) ?_
  refine Y.op (pc' := 655) (fun _ => X.iload rfl dL_isBook_653) ?_
  refine Y.callSWi (As := [.ref x0, .int (1 : Int32), .int x9]) lkw_L_partner rfl calw_L_partner staw_L_partner (Nat.le_of_ble_eq_true rfl) rfl rfl (Nat.le_of_ble_eq_true rfl) dL_isBook_655 (fun _ e => m_L_partner x0 (1 : Int32) x9 h _ e) (fun r1 => ?_)
  refine Y.op (pc' := 659) (fun _ => X.aloadn rfl dL_isBook_658) ?_
  refine Y.op (pc' := 661) (fun _ => X.iload rfl dL_isBook_659) ?_
  refine Y.callVi (As := [.int x9]) lk_L_186 rfl cal_X10_owner vir_X10_owner (Nat.le_of_ble_eq_true rfl) (Nat.le_of_ble_eq_true rfl) rfl rfl rfl (Nat.le_of_ble_eq_true rfl) dL_isBook_661 (fun _ e => m_X10_owner x1 x9 r1.2 _ e) (fun r2 => ?_)
  refine Y.cmpne 715 (by decide) dL_isBook_664 ?_ ?_
  · exact Y.fg (hkE715 r2.2) trivial
  · refine Y.op (pc' := 668) (fun _ => X.aloadn rfl dL_isBook_667) ?_
    refine Y.op (pc' := 669) (fun _ => X.ic ki_1 dL_isBook_668) ?_
    refine Y.op (pc' := 671) (fun _ => X.iload rfl dL_isBook_669) ?_
    refine Y.op (pc' := 672) (fun _ => X.ic ki_0 dL_isBook_671) ?_
    refine Y.callSWi (As := [.ref x0, .int (1 : Int32), .int x9, .int (0 : Int32)]) lkw_L_of rfl calw_L_of staw_L_of (Nat.le_of_ble_eq_true rfl) rfl rfl (Nat.le_of_ble_eq_true rfl) dL_isBook_672 (fun _ e => m_L_of x0 (1 : Int32) x9 (0 : Int32) r2.2 _ e) (fun r3 => ?_)
    refine Y.op (pc' := 677) (fun _ => X.iload rfl dL_isBook_675) ?_
    refine Y.op (pc' := 678) (fun _ => X.iloadn rfl dL_isBook_677) ?_
    refine Y.cmpge 685 (by decide) dL_isBook_678 ?_ ?_
    · refine Y.op (pc' := 686) (fun _ => X.ic ki_0 dL_isBook_685) ?_
      exact y_L_isBook_J686 hkH hkE715 hkE723 x0 x1 x2 x3 x4 x5 x6 x7 x8 x9 x11 s0 r3.1 (0 : Int32) r3.2
    · refine Y.op (pc' := 682) (fun _ => X.ic ki_1 dL_isBook_681) ?_
      refine Y.op (pc' := 686) (fun _ => X.goto 686 (by decide) dL_isBook_682) ?_
      exact y_L_isBook_J686 hkH hkE715 hkE723 x0 x1 x2 x3 x4 x5 x6 x7 x8 x9 x11 s0 r3.1 (1 : Int32) r3.2
def f_L_isBook_J569 (kH : Nat → Nat → Int32 → Nat → Int32 → Int32 → Int32 → Int32 → Nat → Int32 → xH → Option (Int32 × xH)) (kE715 : xH → Option (Int32 × xH)) (kE723 : Nat → Nat → Int32 → Nat → Int32 → Int32 → Int32 → Int32 → Nat → xH → Option (Int32 × xH)) (x0 : Nat) (x1 : Nat) (x2 : Int32) (x3 : Nat) (x4 : Int32) (x5 : Int32) (x6 : Int32) (x7 : Int32) (x8 : Nat) (x9 : Int32) (h : xH) : Option (Int32 × xH) :=
  (vc h 10 x1 (f_X10_like x1 h)).bind fun r1 =>
  (r1.1).bind fun b2 =>
  (gI r1.2 10 b2 4).bind fun v3 =>
  (pI r1.2 10 b2 4 (v3 &&& (((1 : Int32) <<< (x9 &&& 31)) ^^^ (-1 : Int32)))).bind fun h4 =>
  (vc h4 10 b2 (f_X10_most 40 b2 (0 : Int32) (0 : Int32) h4)).bind fun r5 =>
  (gI r5.2 10 x1 4).bind fun v6 =>
  if ((v6 >>> (x9 &&& 31)) &&& (1 : Int32)) = (0 : Int32) then
    f_L_isBook_J649 (kH) kE715 kE723 x0 x1 x2 x3 x4 x5 x6 x7 x8 x9 r5.1 (0 : Int32) r5.2
  else
    (aI r5.2 x3 (1 : Int32)).bind fun v7 =>
    if ((v7 >>> (x9 &&& 31)) &&& (1 : Int32)) = (1 : Int32) then
      f_L_isBook_J649 (kH) kE715 kE723 x0 x1 x2 x3 x4 x5 x6 x7 x8 x9 r5.1 (1 : Int32) r5.2
    else
      (aI r5.2 x3 (3 : Int32)).bind fun v8 =>
      if ((v8 >>> (x9 &&& 31)) &&& (1 : Int32)) = (1 : Int32) then
        f_L_isBook_J649 (kH) kE715 kE723 x0 x1 x2 x3 x4 x5 x6 x7 x8 x9 r5.1 (2 : Int32) r5.2
      else
        f_L_isBook_J649 (kH) kE715 kE723 x0 x1 x2 x3 x4 x5 x6 x7 x8 x9 r5.1 (3 : Int32) r5.2
theorem y_L_isBook_J569 {g : xG} {h0 : xH} {kH : Nat → Nat → Int32 → Nat → Int32 → Int32 → Int32 → Int32 → Nat → Int32 → xH → Option (Int32 × xH)} {kE715 : xH → Option (Int32 × xH)} {kE723 : Nat → Nat → Int32 → Nat → Int32 → Int32 → Int32 → Int32 → Nat → xH → Option (Int32 × xH)} (hkH : ∀ (x0 : Nat) (x1 : Nat) (x2 : Int32) (x3 : Nat) (x4 : Int32) (x5 : Int32) (x6 : Int32) (x7 : Int32) (x8 : Nat) (x9 : Int32) (h : xH), Y g DL_isBook h0 false iI (kH x0 x1 x2 x3 x4 x5 x6 x7 x8 x9 h) 529 [some (.ref x0), some (.ref x1), some (.int x2), some (.ref x3), some (.int x4), some (.int x5), some (.int x6), some (.int x7), some (.ref x8), some (.int x9), none, none, none, none, none, none, none, none, none] [] h) (hkE715 : ∀  (h : xH), Y g DL_isBook h0 false iI (kE715  h) 715 [none, none, none, none, none, none, none, none, none, none, none, none, none, none, none, none, none, none, none] [] h) (hkE723 : ∀ (x0 : Nat) (x1 : Nat) (x2 : Int32) (x3 : Nat) (x4 : Int32) (x5 : Int32) (x6 : Int32) (x7 : Int32) (x8 : Nat) (h : xH), Y g DL_isBook h0 false iI (kE723 x0 x1 x2 x3 x4 x5 x6 x7 x8 h) 723 [some (.ref x0), some (.ref x1), some (.int x2), some (.ref x3), some (.int x4), some (.int x5), some (.int x6), some (.int x7), some (.ref x8), none, none, none, none, none, none, none, none, none, none] [] h) (x0 : Nat) (x1 : Nat) (x2 : Int32) (x3 : Nat) (x4 : Int32) (x5 : Int32) (x6 : Int32) (x7 : Int32) (x8 : Nat) (x9 : Int32) (h : xH) : Y g DL_isBook h0 false iI (f_L_isBook_J569 kH kE715 kE723 x0 x1 x2 x3 x4 x5 x6 x7 x8 x9 h) 569 [some (.ref x0), some (.ref x1), some (.int x2), some (.ref x3), some (.int x4), some (.int x5), some (.int x6), some (.int x7), some (.ref x8), some (.int x9), none, none, none, none, none, none, none, none, none] [] h := by
  unfold f_L_isBook_J569
  refine Y.op (pc' := 570) (fun _ => X.aloadn rfl dL_isBook_569) ?_
  refine Y.callVn (As := []) lk_L_226 rfl cal_X10_like vir_X10_like (Nat.le_of_ble_eq_true rfl) (Nat.le_of_ble_eq_true rfl) rfl rfl rfl (Nat.le_of_ble_eq_true rfl) dL_isBook_570 (fun _ e => m_X10_like x1 h _ e) (fun r1 => ?_)
  refine Y.un (fun b2 => ?_)
  refine Y.op (pc' := 575) (loc' := [some (.ref x0), some (.ref x1), some (.int x2), some (.ref x3), some (.int x4), some (.int x5), some (.int x6), some (.int x7), some (.ref x8), some (.int x9), some (.ref b2), none, none, none, none, none, none, none, none]) (fun _ => X.astore (Nat.le_of_ble_eq_true rfl) rfl dL_isBook_573) ?_
  refine Y.op (pc' := 577) (fun _ => X.aload rfl dL_isBook_575) ?_
  refine Y.op (pc' := 578) (fun _ => X.dup rfl dL_isBook_577) ?_
  refine Y.getI fd_L_150 rfl dL_isBook_578 (fun v3 => ?_)
  refine Y.op (pc' := 582) (fun _ => X.ic ki_1 dL_isBook_581) ?_
  refine Y.op (pc' := 584) (fun _ => X.iload rfl dL_isBook_582) ?_
  refine Y.op (pc' := 585) (fun _ => X.ishl dL_isBook_584) ?_
  refine Y.op (pc' := 586) (fun _ => X.ic ki_m1 dL_isBook_585) ?_
  refine Y.op (pc' := 587) (fun _ => X.ixor dL_isBook_586) ?_
  refine Y.op (pc' := 588) (fun _ => X.iand dL_isBook_587) ?_
  refine Y.putI fd_L_150 rfl dL_isBook_588 (fun h4 => ?_)
  refine Y.op (pc' := 593) (fun _ => X.aload rfl dL_isBook_591) ?_
  refine Y.op (pc' := 594) (fun _ => X.ic ki_0 dL_isBook_593) ?_
  refine Y.op (pc' := 595) (fun _ => X.ic ki_0 dL_isBook_594) ?_
  refine Y.callVi (As := [.int (0 : Int32), .int (0 : Int32)]) lk_L_211 rfl (cal_X10_most _) (vir_X10_most _) (Nat.le_of_ble_eq_true rfl) (Nat.le_of_ble_eq_true rfl) rfl rfl rfl (Nat.le_of_ble_eq_true rfl) dL_isBook_595 (fun _ e => m_X10_most 40 b2 (0 : Int32) (0 : Int32) h4 _ e) (fun r5 => ?_)
  refine Y.op (pc' := 600) (loc' := [some (.ref x0), some (.ref x1), some (.int x2), some (.ref x3), some (.int x4), some (.int x5), some (.int x6), some (.int x7), some (.ref x8), some (.int x9), some (.ref b2), some (.int r5.1), none, none, none, none, none, none, none]) (fun _ => X.istore (Nat.le_of_ble_eq_true rfl) rfl dL_isBook_598) ?_
  refine Y.op (pc' := 601) (fun _ => X.aloadn rfl dL_isBook_600) ?_
  refine Y.getI fd_L_150 rfl dL_isBook_601 (fun v6 => ?_)
  refine Y.op (pc' := 606) (fun _ => X.iload rfl dL_isBook_604) ?_
  refine Y.op (pc' := 607) (fun _ => X.ishr dL_isBook_606) ?_
  refine Y.op (pc' := 608) (fun _ => X.ic ki_1 dL_isBook_607) ?_
  refine Y.op (pc' := 609) (fun _ => X.iand dL_isBook_608) ?_
  refine Y.ifne 616 (by decide) dL_isBook_609 ?_ ?_
  · refine Y.op (pc' := 617) (fun _ => X.aloadn rfl dL_isBook_616) ?_
    refine Y.op (pc' := 618) (fun _ => X.ic ki_1 dL_isBook_617) ?_
    refine Y.aldI dL_isBook_618 (fun v7 => ?_)
    refine Y.op (pc' := 621) (fun _ => X.iload rfl dL_isBook_619) ?_
    refine Y.op (pc' := 622) (fun _ => X.ishr dL_isBook_621) ?_
    refine Y.op (pc' := 623) (fun _ => X.ic ki_1 dL_isBook_622) ?_
    refine Y.op (pc' := 624) (fun _ => X.iand dL_isBook_623) ?_
    refine Y.op (pc' := 625) (fun _ => X.ic ki_1 dL_isBook_624) ?_
    refine Y.cmpne 632 (by decide) dL_isBook_625 ?_ ?_
    · refine Y.op (pc' := 633) (fun _ => X.aloadn rfl dL_isBook_632) ?_
      refine Y.op (pc' := 634) (fun _ => X.ic ki_3 dL_isBook_633) ?_
      refine Y.aldI dL_isBook_634 (fun v8 => ?_)
      refine Y.op (pc' := 637) (fun _ => X.iload rfl dL_isBook_635) ?_
      refine Y.op (pc' := 638) (fun _ => X.ishr dL_isBook_637) ?_
      refine Y.op (pc' := 639) (fun _ => X.ic ki_1 dL_isBook_638) ?_
      refine Y.op (pc' := 640) (fun _ => X.iand dL_isBook_639) ?_
      refine Y.op (pc' := 641) (fun _ => X.ic ki_1 dL_isBook_640) ?_
      refine Y.cmpne 648 (by decide) dL_isBook_641 ?_ ?_
      · refine Y.op (pc' := 649) (fun _ => X.ic ki_3 dL_isBook_648) ?_
        exact Y.fg (y_L_isBook_J649 hkH hkE715 hkE723 x0 x1 x2 x3 x4 x5 x6 x7 x8 x9 r5.1 (3 : Int32) r5.2) (And.intro rfl (And.intro rfl (And.intro rfl (And.intro rfl (And.intro rfl (And.intro rfl (And.intro rfl (And.intro rfl (And.intro rfl (And.intro rfl (And.intro rfl trivial)))))))))))
      · refine Y.op (pc' := 645) (fun _ => X.ic ki_2 dL_isBook_644) ?_
        refine Y.op (pc' := 649) (fun _ => X.goto 649 (by decide) dL_isBook_645) ?_
        exact Y.fg (y_L_isBook_J649 hkH hkE715 hkE723 x0 x1 x2 x3 x4 x5 x6 x7 x8 x9 r5.1 (2 : Int32) r5.2) (And.intro rfl (And.intro rfl (And.intro rfl (And.intro rfl (And.intro rfl (And.intro rfl (And.intro rfl (And.intro rfl (And.intro rfl (And.intro rfl (And.intro rfl trivial)))))))))))
    · refine Y.op (pc' := 629) (fun _ => X.ic ki_1 dL_isBook_628) ?_
      refine Y.op (pc' := 649) (fun _ => X.goto 649 (by decide) dL_isBook_629) ?_
      exact Y.fg (y_L_isBook_J649 hkH hkE715 hkE723 x0 x1 x2 x3 x4 x5 x6 x7 x8 x9 r5.1 (1 : Int32) r5.2) (And.intro rfl (And.intro rfl (And.intro rfl (And.intro rfl (And.intro rfl (And.intro rfl (And.intro rfl (And.intro rfl (And.intro rfl (And.intro rfl (And.intro rfl trivial)))))))))))
  · refine Y.op (pc' := 613) (fun _ => X.ic ki_0 dL_isBook_612) ?_
    refine Y.op (pc' := 649) (fun _ => X.goto 649 (by decide) dL_isBook_613) ?_
    exact Y.fg (y_L_isBook_J649 hkH hkE715 hkE723 x0 x1 x2 x3 x4 x5 x6 x7 x8 x9 r5.1 (0 : Int32) r5.2) (And.intro rfl (And.intro rfl (And.intro rfl (And.intro rfl (And.intro rfl (And.intro rfl (And.intro rfl (And.intro rfl (And.intro rfl (And.intro rfl (And.intro rfl trivial)))))))))))
def f_L_isBook_L529 (kE715 : xH → Option (Int32 × xH)) (kE723 : Nat → Nat → Int32 → Nat → Int32 → Int32 → Int32 → Int32 → Nat → xH → Option (Int32 × xH)) : Nat → Nat → Nat → Int32 → Nat → Int32 → Int32 → Int32 → Int32 → Nat → Int32 → xH → Option (Int32 × xH)
  | 0 => fun _ _ _ _ _ _ _ _ _ _ _ => none
  | n + 1 => fun x0 x1 x2 x3 x4 x5 x6 x7 x8 x9 h =>
    (gI h 10 x1 1).bind fun v1 =>
    if x9 ≥ v1 then
      kE723 x0 x1 x2 x3 x4 x5 x6 x7 x8 h
    else
      (gI h 10 x1 4).bind fun v2 =>
      if ((v2 >>> (x9 &&& 31)) &&& (1 : Int32)) = (1 : Int32) then
        (vc h 10 x1 (f_X10_owner x1 x9 h)).bind fun r3 =>
        if r3.1 ≥ (0 : Int32) then
          f_L_isBook_J569 (f_L_isBook_L529 kE715 kE723 n) kE715 kE723 x0 x1 x2 x3 x4 x5 x6 x7 x8 x9 r3.2
        else
          lt ((x5 ||| ((1 : Int32) <<< (x9 &&& 31)))) fun v4 =>
          f_L_isBook_J569 (f_L_isBook_L529 kE715 kE723 n) kE715 kE723 x0 x1 x2 x3 x4 v4 x6 x7 x8 x9 r3.2
      else
        f_L_isBook_J569 (f_L_isBook_L529 kE715 kE723 n) kE715 kE723 x0 x1 x2 x3 x4 x5 x6 x7 x8 x9 h
theorem y_L_isBook_L529 {g : xG} {h0 : xH} {kE715 : xH → Option (Int32 × xH)} {kE723 : Nat → Nat → Int32 → Nat → Int32 → Int32 → Int32 → Int32 → Nat → xH → Option (Int32 × xH)} (hkE715 : ∀  (h : xH), Y g DL_isBook h0 false iI (kE715  h) 715 [none, none, none, none, none, none, none, none, none, none, none, none, none, none, none, none, none, none, none] [] h) (hkE723 : ∀ (x0 : Nat) (x1 : Nat) (x2 : Int32) (x3 : Nat) (x4 : Int32) (x5 : Int32) (x6 : Int32) (x7 : Int32) (x8 : Nat) (h : xH), Y g DL_isBook h0 false iI (kE723 x0 x1 x2 x3 x4 x5 x6 x7 x8 h) 723 [some (.ref x0), some (.ref x1), some (.int x2), some (.ref x3), some (.int x4), some (.int x5), some (.int x6), some (.int x7), some (.ref x8), none, none, none, none, none, none, none, none, none, none] [] h) : ∀ (n : Nat) (x0 : Nat) (x1 : Nat) (x2 : Int32) (x3 : Nat) (x4 : Int32) (x5 : Int32) (x6 : Int32) (x7 : Int32) (x8 : Nat) (x9 : Int32) (h : xH), Y g DL_isBook h0 false iI (f_L_isBook_L529 kE715 kE723 n x0 x1 x2 x3 x4 x5 x6 x7 x8 x9 h) 529 [some (.ref x0), some (.ref x1), some (.int x2), some (.ref x3), some (.int x4), some (.int x5), some (.int x6), some (.int x7), some (.ref x8), some (.int x9), none, none, none, none, none, none, none, none, none] [] h := by
  intro n
  induction n with
  | zero => intro x0 x1 x2 x3 x4 x5 x6 x7 x8 x9 h; exact Y.nothing
  | succ n ih =>
    intro x0 x1 x2 x3 x4 x5 x6 x7 x8 x9 h
    unfold f_L_isBook_L529
    refine Y.op (pc' := 531) (fun _ => X.iload rfl dL_isBook_529) ?_
    refine Y.op (pc' := 532) (fun _ => X.aloadn rfl dL_isBook_531) ?_
    refine Y.getI fd_L_144 rfl dL_isBook_532 (fun v1 => ?_)
    refine Y.cmpge 723 (by decide) dL_isBook_535 ?_ ?_
    · exact Y.fg (hkE723 x0 x1 x2 x3 x4 x5 x6 x7 x8 h) (And.intro rfl (And.intro rfl (And.intro rfl (And.intro rfl (And.intro rfl (And.intro rfl (And.intro rfl (And.intro rfl (And.intro rfl trivial)))))))))
    · refine Y.op (pc' := 539) (fun _ => X.aloadn rfl dL_isBook_538) ?_
      refine Y.getI fd_L_150 rfl dL_isBook_539 (fun v2 => ?_)
      refine Y.op (pc' := 544) (fun _ => X.iload rfl dL_isBook_542) ?_
      refine Y.op (pc' := 545) (fun _ => X.ishr dL_isBook_544) ?_
      refine Y.op (pc' := 546) (fun _ => X.ic ki_1 dL_isBook_545) ?_
      refine Y.op (pc' := 547) (fun _ => X.iand dL_isBook_546) ?_
      refine Y.op (pc' := 548) (fun _ => X.ic ki_1 dL_isBook_547) ?_
      refine Y.cmpne 569 (by decide) dL_isBook_548 ?_ ?_
      · exact y_L_isBook_J569 ih hkE715 hkE723 x0 x1 x2 x3 x4 x5 x6 x7 x8 x9 h
      · refine Y.op (pc' := 552) (fun _ => X.aloadn rfl dL_isBook_551) ?_
        refine Y.op (pc' := 554) (fun _ => X.iload rfl dL_isBook_552) ?_
        refine Y.callVi (As := [.int x9]) lk_L_186 rfl cal_X10_owner vir_X10_owner (Nat.le_of_ble_eq_true rfl) (Nat.le_of_ble_eq_true rfl) rfl rfl rfl (Nat.le_of_ble_eq_true rfl) dL_isBook_554 (fun _ e => m_X10_owner x1 x9 h _ e) (fun r3 => ?_)
        refine Y.ifge 569 (by decide) dL_isBook_557 ?_ ?_
        · exact y_L_isBook_J569 ih hkE715 hkE723 x0 x1 x2 x3 x4 x5 x6 x7 x8 x9 r3.2
        · refine Y.op (pc' := 562) (fun _ => X.iload rfl dL_isBook_560) ?_
          refine Y.op (pc' := 563) (fun _ => X.ic ki_1 dL_isBook_562) ?_
          refine Y.op (pc' := 565) (fun _ => X.iload rfl dL_isBook_563) ?_
          refine Y.op (pc' := 566) (fun _ => X.ishl dL_isBook_565) ?_
          refine Y.op (pc' := 567) (fun _ => X.ior dL_isBook_566) ?_
          refine Y.top (fun v4 => ?_)
          refine Y.op (pc' := 569) (loc' := [some (.ref x0), some (.ref x1), some (.int x2), some (.ref x3), some (.int x4), some (.int v4), some (.int x6), some (.int x7), some (.ref x8), some (.int x9), none, none, none, none, none, none, none, none, none]) (fun _ => X.istore (Nat.le_of_ble_eq_true rfl) rfl dL_isBook_567) ?_
          exact y_L_isBook_J569 ih hkE715 hkE723 x0 x1 x2 x3 x4 v4 x6 x7 x8 x9 r3.2
def f_L_isBook_J526 (x0 : Nat) (x1 : Nat) (x2 : Int32) (x3 : Nat) (x4 : Int32) (x5 : Int32) (x6 : Int32) (x7 : Int32) (x8 : Nat) (h : xH) : Option (Int32 × xH) :=
  f_L_isBook_L529 (f_L_isBook_J715) (f_L_isBook_J723) 5000 x0 x1 x2 x3 x4 x5 x6 x7 x8 (0 : Int32) h
theorem y_L_isBook_J526 {g : xG} {h0 : xH} (x0 : Nat) (x1 : Nat) (x2 : Int32) (x3 : Nat) (x4 : Int32) (x5 : Int32) (x6 : Int32) (x7 : Int32) (x8 : Nat) (h : xH) : Y g DL_isBook h0 false iI (f_L_isBook_J526 x0 x1 x2 x3 x4 x5 x6 x7 x8 h) 526 [some (.ref x0), some (.ref x1), some (.int x2), some (.ref x3), some (.int x4), some (.int x5), some (.int x6), some (.int x7), some (.ref x8), none, none, none, none, none, none, none, none, none, none] [] h := by
  unfold f_L_isBook_J526
  refine Y.op (pc' := 527) (fun _ => X.ic ki_0 dL_isBook_526) ?_
  refine Y.op (pc' := 529) (loc' := [some (.ref x0), some (.ref x1), some (.int x2), some (.ref x3), some (.int x4), some (.int x5), some (.int x6), some (.int x7), some (.ref x8), some (.int (0 : Int32)), none, none, none, none, none, none, none, none, none]) (fun _ => X.istore (Nat.le_of_ble_eq_true rfl) rfl dL_isBook_527) ?_
  exact y_L_isBook_L529 (y_L_isBook_J715) (y_L_isBook_J723) 5000 x0 x1 x2 x3 x4 x5 x6 x7 x8 (0 : Int32) h
def f_L_isBook_J518 (h : xH) : Option (Int32 × xH) :=
  if (0 : Int32) = 0 ∨ (0 : Int32) = 1 then some ((0 : Int32), h) else none
theorem y_L_isBook_J518 {g : xG} {h0 : xH} (h : xH) : Y g DL_isBook h0 false iI (f_L_isBook_J518 h) 518 [none, none, none, none, none, none, none, none, none, none, none, none, none, none, none, none, none, none, none] [] h := by
  unfold f_L_isBook_J518
  refine Y.op (pc' := 519) (fun _ => X.ic ki_0 dL_isBook_518) ?_
  exact Y.zreturn rfl dL_isBook_519
def f_L_isBook_J489 (h : xH) : Option (Int32 × xH) :=
  if (0 : Int32) = 0 ∨ (0 : Int32) = 1 then some ((0 : Int32), h) else none
theorem y_L_isBook_J489 {g : xG} {h0 : xH} (h : xH) : Y g DL_isBook h0 false iI (f_L_isBook_J489 h) 489 [none, none, none, none, none, none, none, none, none, none, none, none, none, none, none, none, none, none, none] [] h := by
  unfold f_L_isBook_J489
  refine Y.op (pc' := 490) (fun _ => X.ic ki_0 dL_isBook_489) ?_
  exact Y.zreturn rfl dL_isBook_490
def f_L_isBook_J340 (h : xH) : Option (Int32 × xH) :=
  if (0 : Int32) = 0 ∨ (0 : Int32) = 1 then some ((0 : Int32), h) else none
theorem y_L_isBook_J340 {g : xG} {h0 : xH} (h : xH) : Y g DL_isBook h0 false iI (f_L_isBook_J340 h) 340 [none, none, none, none, none, none, none, none, none, none, none, none, none, none, none, none, none, none, none] [] h := by
  unfold f_L_isBook_J340
  refine Y.op (pc' := 341) (fun _ => X.ic ki_0 dL_isBook_340) ?_
  exact Y.zreturn rfl dL_isBook_341
def f_L_isBook_J305 (h : xH) : Option (Int32 × xH) :=
  if (0 : Int32) = 0 ∨ (0 : Int32) = 1 then some ((0 : Int32), h) else none
theorem y_L_isBook_J305 {g : xG} {h0 : xH} (h : xH) : Y g DL_isBook h0 false iI (f_L_isBook_J305 h) 305 [none, none, none, none, none, none, none, none, none, none, none, none, none, none, none, none, none, none, none] [] h := by
  unfold f_L_isBook_J305
  refine Y.op (pc' := 306) (fun _ => X.ic ki_0 dL_isBook_305) ?_
  exact Y.zreturn rfl dL_isBook_306
def f_L_isBook_J173 (h : xH) : Option (Int32 × xH) :=
  if (0 : Int32) = 0 ∨ (0 : Int32) = 1 then some ((0 : Int32), h) else none
theorem y_L_isBook_J173 {g : xG} {h0 : xH} (h : xH) : Y g DL_isBook h0 false iI (f_L_isBook_J173 h) 173 [none, none, none, none, none, none, none, none, none, none, none, none, none, none, none, none, none, none, none] [] h := by
  unfold f_L_isBook_J173
  refine Y.op (pc' := 174) (fun _ => X.ic ki_0 dL_isBook_173) ?_
  exact Y.zreturn rfl dL_isBook_174
def f_L_isBook_J506 (kH : Nat → Nat → Int32 → Nat → Int32 → Int32 → Int32 → Int32 → Nat → Int32 → xH → Option (Int32 × xH)) (kE173 : xH → Option (Int32 × xH)) (kE305 : xH → Option (Int32 × xH)) (kE340 : xH → Option (Int32 × xH)) (kE489 : xH → Option (Int32 × xH)) (kE518 : xH → Option (Int32 × xH)) (kE526 : Nat → Nat → Int32 → Nat → Int32 → Int32 → Int32 → Int32 → Nat → xH → Option (Int32 × xH)) (x0 : Nat) (x1 : Nat) (x2 : Int32) (x3 : Nat) (x4 : Int32) (x5 : Int32) (x6 : Int32) (x7 : Int32) (x8 : Nat) (x9 : Int32) (x10 : Int32) (h : xH) : Option (Int32 × xH) :=
  (f_L_fits x0 (0 : Int32) x9 h).bind fun r1 =>
  if r1.1 = x10 then
    lt (x9 + (1 : Int32)) fun v2 =>
    kH x0 x1 x2 x3 x4 x5 x6 x7 x8 v2 r1.2
  else
    kE518 r1.2
theorem y_L_isBook_J506 {g : xG} {h0 : xH} {kH : Nat → Nat → Int32 → Nat → Int32 → Int32 → Int32 → Int32 → Nat → Int32 → xH → Option (Int32 × xH)} {kE173 : xH → Option (Int32 × xH)} {kE305 : xH → Option (Int32 × xH)} {kE340 : xH → Option (Int32 × xH)} {kE489 : xH → Option (Int32 × xH)} {kE518 : xH → Option (Int32 × xH)} {kE526 : Nat → Nat → Int32 → Nat → Int32 → Int32 → Int32 → Int32 → Nat → xH → Option (Int32 × xH)} (hkH : ∀ (x0 : Nat) (x1 : Nat) (x2 : Int32) (x3 : Nat) (x4 : Int32) (x5 : Int32) (x6 : Int32) (x7 : Int32) (x8 : Nat) (x9 : Int32) (h : xH), Y g DL_isBook h0 false iI (kH x0 x1 x2 x3 x4 x5 x6 x7 x8 x9 h) 32 [some (.ref x0), some (.ref x1), some (.int x2), some (.ref x3), some (.int x4), some (.int x5), some (.int x6), some (.int x7), some (.ref x8), some (.int x9), none, none, none, none, none, none, none, none, none] [] h) (hkE173 : ∀  (h : xH), Y g DL_isBook h0 false iI (kE173  h) 173 [none, none, none, none, none, none, none, none, none, none, none, none, none, none, none, none, none, none, none] [] h) (hkE305 : ∀  (h : xH), Y g DL_isBook h0 false iI (kE305  h) 305 [none, none, none, none, none, none, none, none, none, none, none, none, none, none, none, none, none, none, none] [] h) (hkE340 : ∀  (h : xH), Y g DL_isBook h0 false iI (kE340  h) 340 [none, none, none, none, none, none, none, none, none, none, none, none, none, none, none, none, none, none, none] [] h) (hkE489 : ∀  (h : xH), Y g DL_isBook h0 false iI (kE489  h) 489 [none, none, none, none, none, none, none, none, none, none, none, none, none, none, none, none, none, none, none] [] h) (hkE518 : ∀  (h : xH), Y g DL_isBook h0 false iI (kE518  h) 518 [none, none, none, none, none, none, none, none, none, none, none, none, none, none, none, none, none, none, none] [] h) (hkE526 : ∀ (x0 : Nat) (x1 : Nat) (x2 : Int32) (x3 : Nat) (x4 : Int32) (x5 : Int32) (x6 : Int32) (x7 : Int32) (x8 : Nat) (h : xH), Y g DL_isBook h0 false iI (kE526 x0 x1 x2 x3 x4 x5 x6 x7 x8 h) 526 [some (.ref x0), some (.ref x1), some (.int x2), some (.ref x3), some (.int x4), some (.int x5), some (.int x6), some (.int x7), some (.ref x8), none, none, none, none, none, none, none, none, none, none] [] h) (x0 : Nat) (x1 : Nat) (x2 : Int32) (x3 : Nat) (x4 : Int32) (x5 : Int32) (x6 : Int32) (x7 : Int32) (x8 : Nat) (x9 : Int32) (x10 : Int32) (h : xH) : Y g DL_isBook h0 false iI (f_L_isBook_J506 kH kE173 kE305 kE340 kE489 kE518 kE526 x0 x1 x2 x3 x4 x5 x6 x7 x8 x9 x10 h) 506 [some (.ref x0), some (.ref x1), some (.int x2), some (.ref x3), some (.int x4), some (.int x5), some (.int x6), some (.int x7), some (.ref x8), some (.int x9), some (.int x10), none, none, none, none, none, none, none, none] [] h := by
  unfold f_L_isBook_J506
  refine Y.op (pc' := 507) (fun _ => X.aloadn rfl dL_isBook_506) ?_
  refine Y.op (pc' := 508) (fun _ => X.ic ki_0 dL_isBook_507) ?_
  refine Y.op (pc' := 510) (fun _ => X.iload rfl dL_isBook_508) ?_
  refine Y.callSWi (As := [.ref x0, .int (0 : Int32), .int x9]) lkw_L_fits rfl calw_L_fits staw_L_fits (Nat.le_of_ble_eq_true rfl) rfl rfl (Nat.le_of_ble_eq_true rfl) dL_isBook_510 (fun _ e => m_L_fits x0 (0 : Int32) x9 h _ e) (fun r1 => ?_)
  refine Y.op (pc' := 515) (fun _ => X.iload rfl dL_isBook_513) ?_
  refine Y.cmpeq 520 (by decide) dL_isBook_515 ?_ ?_
  · refine Y.iinc (i := 9) (loc' := fun v2 => [some (.ref x0), some (.ref x1), some (.int x2), some (.ref x3), some (.int x4), some (.int x5), some (.int x6), some (.int x7), some (.ref x8), some (.int v2), some (.int x10), none, none, none, none, none, none, none, none]) rfl (Nat.le_of_ble_eq_true rfl) ki_1 (fun _ => rfl) dL_isBook_520 (fun v2 => ?_)
    refine Y.op (pc' := 32) (fun _ => X.goto 32 (by decide) dL_isBook_523) ?_
    exact Y.fg (hkH x0 x1 x2 x3 x4 x5 x6 x7 x8 v2 r1.2) (And.intro rfl (And.intro rfl (And.intro rfl (And.intro rfl (And.intro rfl (And.intro rfl (And.intro rfl (And.intro rfl (And.intro rfl (And.intro rfl trivial))))))))))
  · exact Y.fg (hkE518 r1.2) trivial
def f_L_isBook_J476 (kH : Nat → Nat → Int32 → Nat → Int32 → Int32 → Int32 → Int32 → Nat → Int32 → Int32 → Int32 → xH → Option (Int32 × xH)) (kE340 : xH → Option (Int32 × xH)) (kE489 : xH → Option (Int32 × xH)) (kE506 : Nat → Nat → Int32 → Nat → Int32 → Int32 → Int32 → Int32 → Nat → Int32 → Int32 → xH → Option (Int32 × xH)) (x0 : Nat) (x1 : Nat) (x2 : Int32) (x3 : Nat) (x4 : Int32) (x5 : Int32) (x6 : Int32) (x7 : Int32) (x8 : Nat) (x9 : Int32) (x10 : Int32) (x15 : Int32) (x16 : Int32) (h : xH) : Option (Int32 × xH) :=
  (f_L_fit x0 x9 x15 h).bind fun r1 =>
  if r1.1 = x16 then
    (aI r1.2 x8 x16).bind fun v2 =>
    (sI r1.2 x8 x16 (v2 + (1 : Int32))).bind fun h3 =>
    lt (x15 + (1 : Int32)) fun v4 =>
    kH x0 x1 x2 x3 x4 x5 x6 x7 x8 x9 x10 v4 h3
  else
    kE489 r1.2
theorem y_L_isBook_J476 {g : xG} {h0 : xH} {kH : Nat → Nat → Int32 → Nat → Int32 → Int32 → Int32 → Int32 → Nat → Int32 → Int32 → Int32 → xH → Option (Int32 × xH)} {kE340 : xH → Option (Int32 × xH)} {kE489 : xH → Option (Int32 × xH)} {kE506 : Nat → Nat → Int32 → Nat → Int32 → Int32 → Int32 → Int32 → Nat → Int32 → Int32 → xH → Option (Int32 × xH)} (hkH : ∀ (x0 : Nat) (x1 : Nat) (x2 : Int32) (x3 : Nat) (x4 : Int32) (x5 : Int32) (x6 : Int32) (x7 : Int32) (x8 : Nat) (x9 : Int32) (x10 : Int32) (x15 : Int32) (h : xH), Y g DL_isBook h0 false iI (kH x0 x1 x2 x3 x4 x5 x6 x7 x8 x9 x10 x15 h) 310 [some (.ref x0), some (.ref x1), some (.int x2), some (.ref x3), some (.int x4), some (.int x5), some (.int x6), some (.int x7), some (.ref x8), some (.int x9), some (.int x10), none, none, none, none, some (.int x15), none, none, none] [] h) (hkE340 : ∀  (h : xH), Y g DL_isBook h0 false iI (kE340  h) 340 [none, none, none, none, none, none, none, none, none, none, none, none, none, none, none, none, none, none, none] [] h) (hkE489 : ∀  (h : xH), Y g DL_isBook h0 false iI (kE489  h) 489 [none, none, none, none, none, none, none, none, none, none, none, none, none, none, none, none, none, none, none] [] h) (hkE506 : ∀ (x0 : Nat) (x1 : Nat) (x2 : Int32) (x3 : Nat) (x4 : Int32) (x5 : Int32) (x6 : Int32) (x7 : Int32) (x8 : Nat) (x9 : Int32) (x10 : Int32) (h : xH), Y g DL_isBook h0 false iI (kE506 x0 x1 x2 x3 x4 x5 x6 x7 x8 x9 x10 h) 506 [some (.ref x0), some (.ref x1), some (.int x2), some (.ref x3), some (.int x4), some (.int x5), some (.int x6), some (.int x7), some (.ref x8), some (.int x9), some (.int x10), none, none, none, none, none, none, none, none] [] h) (x0 : Nat) (x1 : Nat) (x2 : Int32) (x3 : Nat) (x4 : Int32) (x5 : Int32) (x6 : Int32) (x7 : Int32) (x8 : Nat) (x9 : Int32) (x10 : Int32) (x15 : Int32) (x16 : Int32) (h : xH) : Y g DL_isBook h0 false iI (f_L_isBook_J476 kH kE340 kE489 kE506 x0 x1 x2 x3 x4 x5 x6 x7 x8 x9 x10 x15 x16 h) 476 [some (.ref x0), some (.ref x1), some (.int x2), some (.ref x3), some (.int x4), some (.int x5), some (.int x6), some (.int x7), some (.ref x8), some (.int x9), some (.int x10), none, none, none, none, some (.int x15), some (.int x16), none, none] [] h := by
  unfold f_L_isBook_J476
  refine Y.op (pc' := 477) (fun _ => X.aloadn rfl dL_isBook_476) ?_
  refine Y.op (pc' := 479) (fun _ => X.iload rfl dL_isBook_477) ?_
  refine Y.op (pc' := 481) (fun _ => X.iload rfl dL_isBook_479) ?_
  refine Y.callSWi (As := [.ref x0, .int x9, .int x15]) lkw_L_fit rfl calw_L_fit staw_L_fit (Nat.le_of_ble_eq_true rfl) rfl rfl (Nat.le_of_ble_eq_true rfl) dL_isBook_481 (fun _ e => m_L_fit x0 x9 x15 h _ e) (fun r1 => ?_)
  refine Y.op (pc' := 486) (fun _ => X.iload rfl dL_isBook_484) ?_
  refine Y.cmpeq 491 (by decide) dL_isBook_486 ?_ ?_
  · refine Y.op (pc' := 493) (fun _ => X.aload rfl dL_isBook_491) ?_
    refine Y.op (pc' := 495) (fun _ => X.iload rfl dL_isBook_493) ?_
    refine Y.op (pc' := 496) (fun _ => X.dup2 rfl rfl dL_isBook_495) ?_
    refine Y.aldI dL_isBook_496 (fun v2 => ?_)
    refine Y.op (pc' := 498) (fun _ => X.ic ki_1 dL_isBook_497) ?_
    refine Y.op (pc' := 499) (fun _ => X.iadd dL_isBook_498) ?_
    refine Y.astI dL_isBook_499 (fun h3 => ?_)
    refine Y.iinc (i := 15) (loc' := fun v4 => [some (.ref x0), some (.ref x1), some (.int x2), some (.ref x3), some (.int x4), some (.int x5), some (.int x6), some (.int x7), some (.ref x8), some (.int x9), some (.int x10), none, none, none, none, some (.int v4), some (.int x16), none, none]) rfl (Nat.le_of_ble_eq_true rfl) ki_1 (fun _ => rfl) dL_isBook_500 (fun v4 => ?_)
    refine Y.op (pc' := 310) (fun _ => X.goto 310 (by decide) dL_isBook_503) ?_
    exact Y.fg (hkH x0 x1 x2 x3 x4 x5 x6 x7 x8 x9 x10 v4 h3) (And.intro rfl (And.intro rfl (And.intro rfl (And.intro rfl (And.intro rfl (And.intro rfl (And.intro rfl (And.intro rfl (And.intro rfl (And.intro rfl (And.intro rfl (And.intro rfl trivial))))))))))))
  · exact Y.fg (hkE489 r1.2) trivial
def f_L_isBook_J474 (kH : Nat → Nat → Int32 → Nat → Int32 → Int32 → Int32 → Int32 → Nat → Int32 → Int32 → Int32 → xH → Option (Int32 × xH)) (kE340 : xH → Option (Int32 × xH)) (kE489 : xH → Option (Int32 × xH)) (kE506 : Nat → Nat → Int32 → Nat → Int32 → Int32 → Int32 → Int32 → Nat → Int32 → Int32 → xH → Option (Int32 × xH)) (x0 : Nat) (x1 : Nat) (x2 : Int32) (x3 : Nat) (x4 : Int32) (x5 : Int32) (x6 : Int32) (x7 : Int32) (x8 : Nat) (x9 : Int32) (x10 : Int32) (x15 : Int32) (s0 : Int32) (h : xH) : Option (Int32 × xH) :=
  f_L_isBook_J476 (kH) kE340 kE489 kE506 x0 x1 x2 x3 x4 x5 x6 x7 x8 x9 x10 x15 s0 h
theorem y_L_isBook_J474 {g : xG} {h0 : xH} {kH : Nat → Nat → Int32 → Nat → Int32 → Int32 → Int32 → Int32 → Nat → Int32 → Int32 → Int32 → xH → Option (Int32 × xH)} {kE340 : xH → Option (Int32 × xH)} {kE489 : xH → Option (Int32 × xH)} {kE506 : Nat → Nat → Int32 → Nat → Int32 → Int32 → Int32 → Int32 → Nat → Int32 → Int32 → xH → Option (Int32 × xH)} (hkH : ∀ (x0 : Nat) (x1 : Nat) (x2 : Int32) (x3 : Nat) (x4 : Int32) (x5 : Int32) (x6 : Int32) (x7 : Int32) (x8 : Nat) (x9 : Int32) (x10 : Int32) (x15 : Int32) (h : xH), Y g DL_isBook h0 false iI (kH x0 x1 x2 x3 x4 x5 x6 x7 x8 x9 x10 x15 h) 310 [some (.ref x0), some (.ref x1), some (.int x2), some (.ref x3), some (.int x4), some (.int x5), some (.int x6), some (.int x7), some (.ref x8), some (.int x9), some (.int x10), none, none, none, none, some (.int x15), none, none, none] [] h) (hkE340 : ∀  (h : xH), Y g DL_isBook h0 false iI (kE340  h) 340 [none, none, none, none, none, none, none, none, none, none, none, none, none, none, none, none, none, none, none] [] h) (hkE489 : ∀  (h : xH), Y g DL_isBook h0 false iI (kE489  h) 489 [none, none, none, none, none, none, none, none, none, none, none, none, none, none, none, none, none, none, none] [] h) (hkE506 : ∀ (x0 : Nat) (x1 : Nat) (x2 : Int32) (x3 : Nat) (x4 : Int32) (x5 : Int32) (x6 : Int32) (x7 : Int32) (x8 : Nat) (x9 : Int32) (x10 : Int32) (h : xH), Y g DL_isBook h0 false iI (kE506 x0 x1 x2 x3 x4 x5 x6 x7 x8 x9 x10 h) 506 [some (.ref x0), some (.ref x1), some (.int x2), some (.ref x3), some (.int x4), some (.int x5), some (.int x6), some (.int x7), some (.ref x8), some (.int x9), some (.int x10), none, none, none, none, none, none, none, none] [] h) (x0 : Nat) (x1 : Nat) (x2 : Int32) (x3 : Nat) (x4 : Int32) (x5 : Int32) (x6 : Int32) (x7 : Int32) (x8 : Nat) (x9 : Int32) (x10 : Int32) (x15 : Int32) (s0 : Int32) (h : xH) : Y g DL_isBook h0 false iI (f_L_isBook_J474 kH kE340 kE489 kE506 x0 x1 x2 x3 x4 x5 x6 x7 x8 x9 x10 x15 s0 h) 474 [some (.ref x0), some (.ref x1), some (.int x2), some (.ref x3), some (.int x4), some (.int x5), some (.int x6), some (.int x7), some (.ref x8), some (.int x9), some (.int x10), none, none, none, none, some (.int x15), none, none, none] [.int s0] h := by
  unfold f_L_isBook_J474
  refine Y.op (pc' := 476) (loc' := [some (.ref x0), some (.ref x1), some (.int x2), some (.ref x3), some (.int x4), some (.int x5), some (.int x6), some (.int x7), some (.ref x8), some (.int x9), some (.int x10), none, none, none, none, some (.int x15), some (.int s0), none, none]) (fun _ => X.istore (Nat.le_of_ble_eq_true rfl) rfl dL_isBook_474) ?_
  exact y_L_isBook_J476 hkH hkE340 hkE489 hkE506 x0 x1 x2 x3 x4 x5 x6 x7 x8 x9 x10 x15 s0 h
def f_L_isBook_L310 (kE340 : xH → Option (Int32 × xH)) (kE489 : xH → Option (Int32 × xH)) (kE506 : Nat → Nat → Int32 → Nat → Int32 → Int32 → Int32 → Int32 → Nat → Int32 → Int32 → xH → Option (Int32 × xH)) : Nat → Nat → Nat → Int32 → Nat → Int32 → Int32 → Int32 → Int32 → Nat → Int32 → Int32 → Int32 → xH → Option (Int32 × xH)
  | 0 => fun _ _ _ _ _ _ _ _ _ _ _ _ _ => none
  | n + 1 => fun x0 x1 x2 x3 x4 x5 x6 x7 x8 x9 x10 x15 h =>
    (gI h 10 x1 1).bind fun v1 =>
    if x15 ≥ v1 then
      kE506 x0 x1 x2 x3 x4 x5 x6 x7 x8 x9 x10 h
    else
      (f_L_cost x0 x9 x15 h).bind fun r2 =>
      (gR r2.2 10 x1 5).bind fun v3 =>
      (aR 102 r2.2 v3 x9).bind fun v4 =>
      (aI r2.2 v4 x15).bind fun v5 =>
      if r2.1 = v5 then
        (gR r2.2 10 x1 5).bind fun v6 =>
        (aR 102 r2.2 v6 x9).bind fun v7 =>
        (aI r2.2 v7 x15).bind fun v8 =>
        if v8 < (0 : Int32) then
          f_L_isBook_J476 (f_L_isBook_L310 kE340 kE489 kE506 n) kE340 kE489 kE506 x0 x1 x2 x3 x4 x5 x6 x7 x8 x9 x10 x15 (0 : Int32) r2.2
        else
          lt (x6 + (1 : Int32)) fun v9 =>
          lt ((x10 ||| ((1 : Int32) <<< (x15 &&& 31)))) fun v10 =>
          (vc r2.2 10 x1 (f_X10_like x1 r2.2)).bind fun r11 =>
          (r11.1).bind fun b12 =>
          (gR r11.2 10 b12 5).bind fun v13 =>
          (aR 102 r11.2 v13 x9).bind fun v14 =>
          (sI r11.2 v14 x15 (-1 : Int32)).bind fun h15 =>
          (vc h15 10 x1 (f_X10_like x1 h15)).bind fun r16 =>
          (r16.1).bind fun b17 =>
          (gI r16.2 10 b17 3).bind fun v18 =>
          (pI r16.2 10 b17 3 (v18 &&& (((1 : Int32) <<< (x9 &&& 31)) ^^^ (-1 : Int32)))).bind fun h19 =>
          (gI h19 10 b17 4).bind fun v20 =>
          (pI h19 10 b17 4 (v20 &&& (((1 : Int32) <<< (x15 &&& 31)) ^^^ (-1 : Int32)))).bind fun h21 =>
          (vc h21 10 x1 (f_X10_can x1 x9 x15 h21)).bind fun r22 =>
          if r22.1 = (0 : Int32) then
            f_L_isBook_J474 (f_L_isBook_L310 kE340 kE489 kE506 n) kE340 kE489 kE506 x0 x1 x2 x3 x4 x5 v9 x7 x8 x9 v10 x15 (1 : Int32) r22.2
          else
            (vc r22.2 10 b12 (f_X10_most 40 b12 (0 : Int32) (0 : Int32) r22.2)).bind fun r23 =>
            if r23.1 ≥ x2 then
              (vc r23.2 10 b17 (f_X10_most 40 b17 (0 : Int32) (0 : Int32) r23.2)).bind fun r24 =>
              if (r24.1 + (1 : Int32)) = x2 then
                f_L_isBook_J474 (f_L_isBook_L310 kE340 kE489 kE506 n) kE340 kE489 kE506 x0 x1 x2 x3 x4 x5 v9 x7 x8 x9 v10 x15 (2 : Int32) r24.2
              else
                f_L_isBook_J474 (f_L_isBook_L310 kE340 kE489 kE506 n) kE340 kE489 kE506 x0 x1 x2 x3 x4 x5 v9 x7 x8 x9 v10 x15 (1 : Int32) r24.2
            else
              f_L_isBook_J474 (f_L_isBook_L310 kE340 kE489 kE506 n) kE340 kE489 kE506 x0 x1 x2 x3 x4 x5 v9 x7 x8 x9 v10 x15 (3 : Int32) r23.2
      else
        kE340 r2.2
theorem y_L_isBook_L310 {g : xG} {h0 : xH} {kE340 : xH → Option (Int32 × xH)} {kE489 : xH → Option (Int32 × xH)} {kE506 : Nat → Nat → Int32 → Nat → Int32 → Int32 → Int32 → Int32 → Nat → Int32 → Int32 → xH → Option (Int32 × xH)} (hkE340 : ∀  (h : xH), Y g DL_isBook h0 false iI (kE340  h) 340 [none, none, none, none, none, none, none, none, none, none, none, none, none, none, none, none, none, none, none] [] h) (hkE489 : ∀  (h : xH), Y g DL_isBook h0 false iI (kE489  h) 489 [none, none, none, none, none, none, none, none, none, none, none, none, none, none, none, none, none, none, none] [] h) (hkE506 : ∀ (x0 : Nat) (x1 : Nat) (x2 : Int32) (x3 : Nat) (x4 : Int32) (x5 : Int32) (x6 : Int32) (x7 : Int32) (x8 : Nat) (x9 : Int32) (x10 : Int32) (h : xH), Y g DL_isBook h0 false iI (kE506 x0 x1 x2 x3 x4 x5 x6 x7 x8 x9 x10 h) 506 [some (.ref x0), some (.ref x1), some (.int x2), some (.ref x3), some (.int x4), some (.int x5), some (.int x6), some (.int x7), some (.ref x8), some (.int x9), some (.int x10), none, none, none, none, none, none, none, none] [] h) : ∀ (n : Nat) (x0 : Nat) (x1 : Nat) (x2 : Int32) (x3 : Nat) (x4 : Int32) (x5 : Int32) (x6 : Int32) (x7 : Int32) (x8 : Nat) (x9 : Int32) (x10 : Int32) (x15 : Int32) (h : xH), Y g DL_isBook h0 false iI (f_L_isBook_L310 kE340 kE489 kE506 n x0 x1 x2 x3 x4 x5 x6 x7 x8 x9 x10 x15 h) 310 [some (.ref x0), some (.ref x1), some (.int x2), some (.ref x3), some (.int x4), some (.int x5), some (.int x6), some (.int x7), some (.ref x8), some (.int x9), some (.int x10), none, none, none, none, some (.int x15), none, none, none] [] h := by
  intro n
  induction n with
  | zero => intro x0 x1 x2 x3 x4 x5 x6 x7 x8 x9 x10 x15 h; exact Y.nothing
  | succ n ih =>
    intro x0 x1 x2 x3 x4 x5 x6 x7 x8 x9 x10 x15 h
    unfold f_L_isBook_L310
    refine Y.op (pc' := 312) (fun _ => X.iload rfl dL_isBook_310) ?_
    refine Y.op (pc' := 313) (fun _ => X.aloadn rfl dL_isBook_312) ?_
    refine Y.getI fd_L_144 rfl dL_isBook_313 (fun v1 => ?_)
    refine Y.cmpge 506 (by decide) dL_isBook_316 ?_ ?_
    · exact Y.fg (hkE506 x0 x1 x2 x3 x4 x5 x6 x7 x8 x9 x10 h) (And.intro rfl (And.intro rfl (And.intro rfl (And.intro rfl (And.intro rfl (And.intro rfl (And.intro rfl (And.intro rfl (And.intro rfl (And.intro rfl (And.intro rfl trivial)))))))))))
    · refine Y.op (pc' := 320) (fun _ => X.aloadn rfl dL_isBook_319) ?_
      refine Y.op (pc' := 322) (fun _ => X.iload rfl dL_isBook_320) ?_
      refine Y.op (pc' := 324) (fun _ => X.iload rfl dL_isBook_322) ?_
      refine Y.callSWi (As := [.ref x0, .int x9, .int x15]) lkw_L_cost rfl calw_L_cost staw_L_cost (Nat.le_of_ble_eq_true rfl) rfl rfl (Nat.le_of_ble_eq_true rfl) dL_isBook_324 (fun _ e => m_L_cost x0 x9 x15 h _ e) (fun r2 => ?_)
      refine Y.op (pc' := 328) (fun _ => X.aloadn rfl dL_isBook_327) ?_
      refine Y.getR fd_L_171 rfl dL_isBook_328 (fun v3 => ?_)
      refine Y.op (pc' := 333) (fun _ => X.iload rfl dL_isBook_331) ?_
      refine Y.aldR 102 (by decide) (by decide) dL_isBook_333 (fun v4 => ?_)
      refine Y.op (pc' := 336) (fun _ => X.iload rfl dL_isBook_334) ?_
      refine Y.aldI dL_isBook_336 (fun v5 => ?_)
      refine Y.cmpeq 342 (by decide) dL_isBook_337 ?_ ?_
      · refine Y.op (pc' := 343) (fun _ => X.ic ki_0 dL_isBook_342) ?_
        refine Y.op (pc' := 345) (loc' := [some (.ref x0), some (.ref x1), some (.int x2), some (.ref x3), some (.int x4), some (.int x5), some (.int x6), some (.int x7), some (.ref x8), some (.int x9), some (.int x10), none, none, none, none, some (.int x15), some (.int (0 : Int32)), none, none]) (fun _ => X.istore (Nat.le_of_ble_eq_true rfl) rfl dL_isBook_343) ?_
        refine Y.op (pc' := 346) (fun _ => X.aloadn rfl dL_isBook_345) ?_
        refine Y.getR fd_L_171 rfl dL_isBook_346 (fun v6 => ?_)
        refine Y.op (pc' := 351) (fun _ => X.iload rfl dL_isBook_349) ?_
        refine Y.aldR 102 (by decide) (by decide) dL_isBook_351 (fun v7 => ?_)
        refine Y.op (pc' := 354) (fun _ => X.iload rfl dL_isBook_352) ?_
        refine Y.aldI dL_isBook_354 (fun v8 => ?_)
        refine Y.iflt 476 (by decide) dL_isBook_355 ?_ ?_
        · exact y_L_isBook_J476 ih hkE340 hkE489 hkE506 x0 x1 x2 x3 x4 x5 x6 x7 x8 x9 x10 x15 (0 : Int32) r2.2
        · refine Y.iinc (i := 6) (loc' := fun v9 => [some (.ref x0), some (.ref x1), some (.int x2), some (.ref x3), some (.int x4), some (.int x5), some (.int v9), some (.int x7), some (.ref x8), some (.int x9), some (.int x10), none, none, none, none, some (.int x15), some (.int (0 : Int32)), none, none]) rfl (Nat.le_of_ble_eq_true rfl) ki_1 (fun _ => rfl) dL_isBook_358 (fun v9 => ?_)
          refine Y.op (pc' := 363) (fun _ => X.iload rfl dL_isBook_361) ?_
          refine Y.op (pc' := 364) (fun _ => X.ic ki_1 dL_isBook_363) ?_
          refine Y.op (pc' := 366) (fun _ => X.iload rfl dL_isBook_364) ?_
          refine Y.op (pc' := 367) (fun _ => X.ishl dL_isBook_366) ?_
          refine Y.op (pc' := 368) (fun _ => X.ior dL_isBook_367) ?_
          refine Y.top (fun v10 => ?_)
          refine Y.op (pc' := 370) (loc' := [some (.ref x0), some (.ref x1), some (.int x2), some (.ref x3), some (.int x4), some (.int x5), some (.int v9), some (.int x7), some (.ref x8), some (.int x9), some (.int v10), none, none, none, none, some (.int x15), some (.int (0 : Int32)), none, none]) (fun _ => X.istore (Nat.le_of_ble_eq_true rfl) rfl dL_isBook_368) ?_
          refine Y.op (pc' := 371) (fun _ => X.aloadn rfl dL_isBook_370) ?_
          refine Y.callVn (As := []) lk_L_226 rfl cal_X10_like vir_X10_like (Nat.le_of_ble_eq_true rfl) (Nat.le_of_ble_eq_true rfl) rfl rfl rfl (Nat.le_of_ble_eq_true rfl) dL_isBook_371 (fun _ e => m_X10_like x1 r2.2 _ e) (fun r11 => ?_)
          refine Y.un (fun b12 => ?_)
          refine Y.op (pc' := 376) (loc' := [some (.ref x0), some (.ref x1), some (.int x2), some (.ref x3), some (.int x4), some (.int x5), some (.int v9), some (.int x7), some (.ref x8), some (.int x9), some (.int v10), none, none, none, none, some (.int x15), some (.int (0 : Int32)), some (.ref b12), none]) (fun _ => X.astore (Nat.le_of_ble_eq_true rfl) rfl dL_isBook_374) ?_
          refine Y.op (pc' := 378) (fun _ => X.aload rfl dL_isBook_376) ?_
          refine Y.getR fd_L_171 rfl dL_isBook_378 (fun v13 => ?_)
          refine Y.op (pc' := 383) (fun _ => X.iload rfl dL_isBook_381) ?_
          refine Y.aldR 102 (by decide) (by decide) dL_isBook_383 (fun v14 => ?_)
          refine Y.op (pc' := 386) (fun _ => X.iload rfl dL_isBook_384) ?_
          refine Y.op (pc' := 387) (fun _ => X.ic ki_m1 dL_isBook_386) ?_
          refine Y.astI dL_isBook_387 (fun h15 => ?_)
          refine Y.op (pc' := 389) (fun _ => X.aloadn rfl dL_isBook_388) ?_
          refine Y.callVn (As := []) lk_L_226 rfl cal_X10_like vir_X10_like (Nat.le_of_ble_eq_true rfl) (Nat.le_of_ble_eq_true rfl) rfl rfl rfl (Nat.le_of_ble_eq_true rfl) dL_isBook_389 (fun _ e => m_X10_like x1 h15 _ e) (fun r16 => ?_)
          refine Y.un (fun b17 => ?_)
          refine Y.op (pc' := 394) (loc' := [some (.ref x0), some (.ref x1), some (.int x2), some (.ref x3), some (.int x4), some (.int x5), some (.int v9), some (.int x7), some (.ref x8), some (.int x9), some (.int v10), none, none, none, none, some (.int x15), some (.int (0 : Int32)), some (.ref b12), some (.ref b17)]) (fun _ => X.astore (Nat.le_of_ble_eq_true rfl) rfl dL_isBook_392) ?_
          refine Y.op (pc' := 396) (fun _ => X.aload rfl dL_isBook_394) ?_
          refine Y.op (pc' := 397) (fun _ => X.dup rfl dL_isBook_396) ?_
          refine Y.getI fd_L_147 rfl dL_isBook_397 (fun v18 => ?_)
          refine Y.op (pc' := 401) (fun _ => X.ic ki_1 dL_isBook_400) ?_
          refine Y.op (pc' := 403) (fun _ => X.iload rfl dL_isBook_401) ?_
          refine Y.op (pc' := 404) (fun _ => X.ishl dL_isBook_403) ?_
          refine Y.op (pc' := 405) (fun _ => X.ic ki_m1 dL_isBook_404) ?_
          refine Y.op (pc' := 406) (fun _ => X.ixor dL_isBook_405) ?_
          refine Y.op (pc' := 407) (fun _ => X.iand dL_isBook_406) ?_
          refine Y.putI fd_L_147 rfl dL_isBook_407 (fun h19 => ?_)
          refine Y.op (pc' := 412) (fun _ => X.aload rfl dL_isBook_410) ?_
          refine Y.op (pc' := 413) (fun _ => X.dup rfl dL_isBook_412) ?_
          refine Y.getI fd_L_150 rfl dL_isBook_413 (fun v20 => ?_)
          refine Y.op (pc' := 417) (fun _ => X.ic ki_1 dL_isBook_416) ?_
          refine Y.op (pc' := 419) (fun _ => X.iload rfl dL_isBook_417) ?_
          refine Y.op (pc' := 420) (fun _ => X.ishl dL_isBook_419) ?_
          refine Y.op (pc' := 421) (fun _ => X.ic ki_m1 dL_isBook_420) ?_
          refine Y.op (pc' := 422) (fun _ => X.ixor dL_isBook_421) ?_
          refine Y.op (pc' := 423) (fun _ => X.iand dL_isBook_422) ?_
          refine Y.putI fd_L_150 rfl dL_isBook_423 (fun h21 => ?_)
          refine Y.op (pc' := 427) (fun _ => X.aloadn rfl dL_isBook_426) ?_
          refine Y.op (pc' := 429) (fun _ => X.iload rfl dL_isBook_427) ?_
          refine Y.op (pc' := 431) (fun _ => X.iload rfl dL_isBook_429) ?_
          refine Y.callVi (As := [.int x9, .int x15]) lk_L_182 rfl cal_X10_can vir_X10_can (Nat.le_of_ble_eq_true rfl) (Nat.le_of_ble_eq_true rfl) rfl rfl rfl (Nat.le_of_ble_eq_true rfl) dL_isBook_431 (fun _ e => m_X10_can x1 x9 x15 h21 _ e) (fun r22 => ?_)
          refine Y.ifne 441 (by decide) dL_isBook_434 ?_ ?_
          · refine Y.op (pc' := 443) (fun _ => X.aload rfl dL_isBook_441) ?_
            refine Y.op (pc' := 444) (fun _ => X.ic ki_0 dL_isBook_443) ?_
            refine Y.op (pc' := 445) (fun _ => X.ic ki_0 dL_isBook_444) ?_
            refine Y.callVi (As := [.int (0 : Int32), .int (0 : Int32)]) lk_L_211 rfl (cal_X10_most _) (vir_X10_most _) (Nat.le_of_ble_eq_true rfl) (Nat.le_of_ble_eq_true rfl) rfl rfl rfl (Nat.le_of_ble_eq_true rfl) dL_isBook_445 (fun _ e => m_X10_most 40 b12 (0 : Int32) (0 : Int32) r22.2 _ e) (fun r23 => ?_)
            refine Y.op (pc' := 449) (fun _ => X.iloadn rfl dL_isBook_448) ?_
            refine Y.cmpge 456 (by decide) dL_isBook_449 ?_ ?_
            · refine Y.op (pc' := 458) (fun _ => X.aload rfl dL_isBook_456) ?_
              refine Y.op (pc' := 459) (fun _ => X.ic ki_0 dL_isBook_458) ?_
              refine Y.op (pc' := 460) (fun _ => X.ic ki_0 dL_isBook_459) ?_
              refine Y.callVi (As := [.int (0 : Int32), .int (0 : Int32)]) lk_L_211 rfl (cal_X10_most _) (vir_X10_most _) (Nat.le_of_ble_eq_true rfl) (Nat.le_of_ble_eq_true rfl) rfl rfl rfl (Nat.le_of_ble_eq_true rfl) dL_isBook_460 (fun _ e => m_X10_most 40 b17 (0 : Int32) (0 : Int32) r23.2 _ e) (fun r24 => ?_)
              refine Y.op (pc' := 464) (fun _ => X.ic ki_1 dL_isBook_463) ?_
              refine Y.op (pc' := 465) (fun _ => X.iadd dL_isBook_464) ?_
              refine Y.op (pc' := 466) (fun _ => X.iloadn rfl dL_isBook_465) ?_
              refine Y.cmpne 473 (by decide) dL_isBook_466 ?_ ?_
              · refine Y.op (pc' := 474) (fun _ => X.ic ki_1 dL_isBook_473) ?_
                exact Y.fg (y_L_isBook_J474 ih hkE340 hkE489 hkE506 x0 x1 x2 x3 x4 x5 v9 x7 x8 x9 v10 x15 (1 : Int32) r24.2) (And.intro rfl (And.intro rfl (And.intro rfl (And.intro rfl (And.intro rfl (And.intro rfl (And.intro rfl (And.intro rfl (And.intro rfl (And.intro rfl (And.intro rfl (And.intro rfl trivial))))))))))))
              · refine Y.op (pc' := 470) (fun _ => X.ic ki_2 dL_isBook_469) ?_
                refine Y.op (pc' := 474) (fun _ => X.goto 474 (by decide) dL_isBook_470) ?_
                exact Y.fg (y_L_isBook_J474 ih hkE340 hkE489 hkE506 x0 x1 x2 x3 x4 x5 v9 x7 x8 x9 v10 x15 (2 : Int32) r24.2) (And.intro rfl (And.intro rfl (And.intro rfl (And.intro rfl (And.intro rfl (And.intro rfl (And.intro rfl (And.intro rfl (And.intro rfl (And.intro rfl (And.intro rfl (And.intro rfl trivial))))))))))))
            · refine Y.op (pc' := 453) (fun _ => X.ic ki_3 dL_isBook_452) ?_
              refine Y.op (pc' := 474) (fun _ => X.goto 474 (by decide) dL_isBook_453) ?_
              exact Y.fg (y_L_isBook_J474 ih hkE340 hkE489 hkE506 x0 x1 x2 x3 x4 x5 v9 x7 x8 x9 v10 x15 (3 : Int32) r23.2) (And.intro rfl (And.intro rfl (And.intro rfl (And.intro rfl (And.intro rfl (And.intro rfl (And.intro rfl (And.intro rfl (And.intro rfl (And.intro rfl (And.intro rfl (And.intro rfl trivial))))))))))))
          · refine Y.op (pc' := 438) (fun _ => X.ic ki_1 dL_isBook_437) ?_
            refine Y.op (pc' := 474) (fun _ => X.goto 474 (by decide) dL_isBook_438) ?_
            exact Y.fg (y_L_isBook_J474 ih hkE340 hkE489 hkE506 x0 x1 x2 x3 x4 x5 v9 x7 x8 x9 v10 x15 (1 : Int32) r22.2) (And.intro rfl (And.intro rfl (And.intro rfl (And.intro rfl (And.intro rfl (And.intro rfl (And.intro rfl (And.intro rfl (And.intro rfl (And.intro rfl (And.intro rfl (And.intro rfl trivial))))))))))))
      · exact Y.fg (hkE340 r2.2) trivial
def f_L_isBook_J276 (kH : Nat → Nat → Int32 → Nat → Int32 → Int32 → Int32 → Int32 → Nat → Int32 → xH → Option (Int32 × xH)) (kE173 : xH → Option (Int32 × xH)) (kE305 : xH → Option (Int32 × xH)) (kE340 : xH → Option (Int32 × xH)) (kE489 : xH → Option (Int32 × xH)) (kE518 : xH → Option (Int32 × xH)) (kE526 : Nat → Nat → Int32 → Nat → Int32 → Int32 → Int32 → Int32 → Nat → xH → Option (Int32 × xH)) (x0 : Nat) (x1 : Nat) (x2 : Int32) (x3 : Nat) (x4 : Int32) (x5 : Int32) (x6 : Int32) (x7 : Int32) (x8 : Nat) (x9 : Int32) (x10 : Int32) (x13 : Int32) (x14 : Int32) (s0 : Int32) (s1 : Int32) (h : xH) : Option (Int32 × xH) :=
  if s0 = s1 then
    (f_L_of x0 (0 : Int32) x9 (1 : Int32) h).bind fun r1 =>
    if r1.1 = x13 then
      (f_L_of x0 (0 : Int32) x9 (2 : Int32) r1.2).bind fun r2 =>
      if r2.1 = x14 then
        f_L_isBook_L310 (kE340) (kE489) (f_L_isBook_J506 (kH) kE173 kE305 kE340 kE489 kE518 kE526) 5000 x0 x1 x2 x3 x4 x5 x6 x7 x8 x9 x10 (0 : Int32) r2.2
      else
        kE305 r2.2
    else
      kE305 r1.2
  else
    kE305 h
theorem y_L_isBook_J276 {g : xG} {h0 : xH} {kH : Nat → Nat → Int32 → Nat → Int32 → Int32 → Int32 → Int32 → Nat → Int32 → xH → Option (Int32 × xH)} {kE173 : xH → Option (Int32 × xH)} {kE305 : xH → Option (Int32 × xH)} {kE340 : xH → Option (Int32 × xH)} {kE489 : xH → Option (Int32 × xH)} {kE518 : xH → Option (Int32 × xH)} {kE526 : Nat → Nat → Int32 → Nat → Int32 → Int32 → Int32 → Int32 → Nat → xH → Option (Int32 × xH)} (hkH : ∀ (x0 : Nat) (x1 : Nat) (x2 : Int32) (x3 : Nat) (x4 : Int32) (x5 : Int32) (x6 : Int32) (x7 : Int32) (x8 : Nat) (x9 : Int32) (h : xH), Y g DL_isBook h0 false iI (kH x0 x1 x2 x3 x4 x5 x6 x7 x8 x9 h) 32 [some (.ref x0), some (.ref x1), some (.int x2), some (.ref x3), some (.int x4), some (.int x5), some (.int x6), some (.int x7), some (.ref x8), some (.int x9), none, none, none, none, none, none, none, none, none] [] h) (hkE173 : ∀  (h : xH), Y g DL_isBook h0 false iI (kE173  h) 173 [none, none, none, none, none, none, none, none, none, none, none, none, none, none, none, none, none, none, none] [] h) (hkE305 : ∀  (h : xH), Y g DL_isBook h0 false iI (kE305  h) 305 [none, none, none, none, none, none, none, none, none, none, none, none, none, none, none, none, none, none, none] [] h) (hkE340 : ∀  (h : xH), Y g DL_isBook h0 false iI (kE340  h) 340 [none, none, none, none, none, none, none, none, none, none, none, none, none, none, none, none, none, none, none] [] h) (hkE489 : ∀  (h : xH), Y g DL_isBook h0 false iI (kE489  h) 489 [none, none, none, none, none, none, none, none, none, none, none, none, none, none, none, none, none, none, none] [] h) (hkE518 : ∀  (h : xH), Y g DL_isBook h0 false iI (kE518  h) 518 [none, none, none, none, none, none, none, none, none, none, none, none, none, none, none, none, none, none, none] [] h) (hkE526 : ∀ (x0 : Nat) (x1 : Nat) (x2 : Int32) (x3 : Nat) (x4 : Int32) (x5 : Int32) (x6 : Int32) (x7 : Int32) (x8 : Nat) (h : xH), Y g DL_isBook h0 false iI (kE526 x0 x1 x2 x3 x4 x5 x6 x7 x8 h) 526 [some (.ref x0), some (.ref x1), some (.int x2), some (.ref x3), some (.int x4), some (.int x5), some (.int x6), some (.int x7), some (.ref x8), none, none, none, none, none, none, none, none, none, none] [] h) (x0 : Nat) (x1 : Nat) (x2 : Int32) (x3 : Nat) (x4 : Int32) (x5 : Int32) (x6 : Int32) (x7 : Int32) (x8 : Nat) (x9 : Int32) (x10 : Int32) (x13 : Int32) (x14 : Int32) (s0 : Int32) (s1 : Int32) (h : xH) : Y g DL_isBook h0 false iI (f_L_isBook_J276 kH kE173 kE305 kE340 kE489 kE518 kE526 x0 x1 x2 x3 x4 x5 x6 x7 x8 x9 x10 x13 x14 s0 s1 h) 276 [some (.ref x0), some (.ref x1), some (.int x2), some (.ref x3), some (.int x4), some (.int x5), some (.int x6), some (.int x7), some (.ref x8), some (.int x9), some (.int x10), none, none, some (.int x13), some (.int x14), none, none, none, none] [.int s1, .int s0] h := by
  unfold f_L_isBook_J276
  refine Y.cmpne 305 (by decide) dL_isBook_276 ?_ ?_
  · exact Y.fg (hkE305 h) trivial
  · refine Y.op (pc' := 280) (fun _ => X.aloadn rfl dL_isBook_279) ?_
    refine Y.op (pc' := 281) (fun _ => X.ic ki_0 dL_isBook_280) ?_
    refine Y.op (pc' := 283) (fun _ => X.iload rfl dL_isBook_281) ?_
    refine Y.op (pc' := 284) (fun _ => X.ic ki_1 dL_isBook_283) ?_
    refine Y.callSWi (As := [.ref x0, .int (0 : Int32), .int x9, .int (1 : Int32)]) lkw_L_of rfl calw_L_of staw_L_of (Nat.le_of_ble_eq_true rfl) rfl rfl (Nat.le_of_ble_eq_true rfl) dL_isBook_284 (fun _ e => m_L_of x0 (0 : Int32) x9 (1 : Int32) h _ e) (fun r1 => ?_)
    refine Y.op (pc' := 289) (fun _ => X.iload rfl dL_isBook_287) ?_
    refine Y.cmpne 305 (by decide) dL_isBook_289 ?_ ?_
    · exact Y.fg (hkE305 r1.2) trivial
    · refine Y.op (pc' := 293) (fun _ => X.aloadn rfl dL_isBook_292) ?_
      refine Y.op (pc' := 294) (fun _ => X.ic ki_0 dL_isBook_293) ?_
      refine Y.op (pc' := 296) (fun _ => X.iload rfl dL_isBook_294) ?_
      refine Y.op (pc' := 297) (fun _ => X.ic ki_2 dL_isBook_296) ?_
      refine Y.callSWi (As := [.ref x0, .int (0 : Int32), .int x9, .int (2 : Int32)]) lkw_L_of rfl calw_L_of staw_L_of (Nat.le_of_ble_eq_true rfl) rfl rfl (Nat.le_of_ble_eq_true rfl) dL_isBook_297 (fun _ e => m_L_of x0 (0 : Int32) x9 (2 : Int32) r1.2 _ e) (fun r2 => ?_)
      refine Y.op (pc' := 302) (fun _ => X.iload rfl dL_isBook_300) ?_
      refine Y.cmpeq 307 (by decide) dL_isBook_302 ?_ ?_
      · refine Y.op (pc' := 308) (fun _ => X.ic ki_0 dL_isBook_307) ?_
        refine Y.op (pc' := 310) (loc' := [some (.ref x0), some (.ref x1), some (.int x2), some (.ref x3), some (.int x4), some (.int x5), some (.int x6), some (.int x7), some (.ref x8), some (.int x9), some (.int x10), none, none, some (.int x13), some (.int x14), some (.int (0 : Int32)), none, none, none]) (fun _ => X.istore (Nat.le_of_ble_eq_true rfl) rfl dL_isBook_308) ?_
        exact Y.fg (y_L_isBook_L310 (hkE340) (hkE489) (y_L_isBook_J506 hkH hkE173 hkE305 hkE340 hkE489 hkE518 hkE526) 5000 x0 x1 x2 x3 x4 x5 x6 x7 x8 x9 x10 (0 : Int32) r2.2) (And.intro rfl (And.intro rfl (And.intro rfl (And.intro rfl (And.intro rfl (And.intro rfl (And.intro rfl (And.intro rfl (And.intro rfl (And.intro rfl (And.intro rfl (And.intro rfl trivial))))))))))))
      · exact Y.fg (hkE305 r2.2) trivial
def f_L_isBook_J255 (kH : Nat → Nat → Int32 → Nat → Int32 → Int32 → Int32 → Int32 → Nat → Int32 → xH → Option (Int32 × xH)) (kE173 : xH → Option (Int32 × xH)) (kE305 : xH → Option (Int32 × xH)) (kE340 : xH → Option (Int32 × xH)) (kE489 : xH → Option (Int32 × xH)) (kE518 : xH → Option (Int32 × xH)) (kE526 : Nat → Nat → Int32 → Nat → Int32 → Int32 → Int32 → Int32 → Nat → xH → Option (Int32 × xH)) (x0 : Nat) (x1 : Nat) (x2 : Int32) (x3 : Nat) (x4 : Int32) (x5 : Int32) (x6 : Int32) (x7 : Int32) (x8 : Nat) (x9 : Int32) (x10 : Int32) (x13 : Int32) (s0 : Int32) (h : xH) : Option (Int32 × xH) :=
  (f_L_of x0 (0 : Int32) x9 (0 : Int32) h).bind fun r1 =>
  if x13 ≥ x2 then
    f_L_isBook_J276 (kH) kE173 kE305 kE340 kE489 kE518 kE526 x0 x1 x2 x3 x4 x5 x6 x7 x8 x9 x10 x13 s0 r1.1 (0 : Int32) r1.2
  else
    f_L_isBook_J276 (kH) kE173 kE305 kE340 kE489 kE518 kE526 x0 x1 x2 x3 x4 x5 x6 x7 x8 x9 x10 x13 s0 r1.1 (1 : Int32) r1.2
theorem y_L_isBook_J255 {g : xG} {h0 : xH} {kH : Nat → Nat → Int32 → Nat → Int32 → Int32 → Int32 → Int32 → Nat → Int32 → xH → Option (Int32 × xH)} {kE173 : xH → Option (Int32 × xH)} {kE305 : xH → Option (Int32 × xH)} {kE340 : xH → Option (Int32 × xH)} {kE489 : xH → Option (Int32 × xH)} {kE518 : xH → Option (Int32 × xH)} {kE526 : Nat → Nat → Int32 → Nat → Int32 → Int32 → Int32 → Int32 → Nat → xH → Option (Int32 × xH)} (hkH : ∀ (x0 : Nat) (x1 : Nat) (x2 : Int32) (x3 : Nat) (x4 : Int32) (x5 : Int32) (x6 : Int32) (x7 : Int32) (x8 : Nat) (x9 : Int32) (h : xH), Y g DL_isBook h0 false iI (kH x0 x1 x2 x3 x4 x5 x6 x7 x8 x9 h) 32 [some (.ref x0), some (.ref x1), some (.int x2), some (.ref x3), some (.int x4), some (.int x5), some (.int x6), some (.int x7), some (.ref x8), some (.int x9), none, none, none, none, none, none, none, none, none] [] h) (hkE173 : ∀  (h : xH), Y g DL_isBook h0 false iI (kE173  h) 173 [none, none, none, none, none, none, none, none, none, none, none, none, none, none, none, none, none, none, none] [] h) (hkE305 : ∀  (h : xH), Y g DL_isBook h0 false iI (kE305  h) 305 [none, none, none, none, none, none, none, none, none, none, none, none, none, none, none, none, none, none, none] [] h) (hkE340 : ∀  (h : xH), Y g DL_isBook h0 false iI (kE340  h) 340 [none, none, none, none, none, none, none, none, none, none, none, none, none, none, none, none, none, none, none] [] h) (hkE489 : ∀  (h : xH), Y g DL_isBook h0 false iI (kE489  h) 489 [none, none, none, none, none, none, none, none, none, none, none, none, none, none, none, none, none, none, none] [] h) (hkE518 : ∀  (h : xH), Y g DL_isBook h0 false iI (kE518  h) 518 [none, none, none, none, none, none, none, none, none, none, none, none, none, none, none, none, none, none, none] [] h) (hkE526 : ∀ (x0 : Nat) (x1 : Nat) (x2 : Int32) (x3 : Nat) (x4 : Int32) (x5 : Int32) (x6 : Int32) (x7 : Int32) (x8 : Nat) (h : xH), Y g DL_isBook h0 false iI (kE526 x0 x1 x2 x3 x4 x5 x6 x7 x8 h) 526 [some (.ref x0), some (.ref x1), some (.int x2), some (.ref x3), some (.int x4), some (.int x5), some (.int x6), some (.int x7), some (.ref x8), none, none, none, none, none, none, none, none, none, none] [] h) (x0 : Nat) (x1 : Nat) (x2 : Int32) (x3 : Nat) (x4 : Int32) (x5 : Int32) (x6 : Int32) (x7 : Int32) (x8 : Nat) (x9 : Int32) (x10 : Int32) (x13 : Int32) (s0 : Int32) (h : xH) : Y g DL_isBook h0 false iI (f_L_isBook_J255 kH kE173 kE305 kE340 kE489 kE518 kE526 x0 x1 x2 x3 x4 x5 x6 x7 x8 x9 x10 x13 s0 h) 255 [some (.ref x0), some (.ref x1), some (.int x2), some (.ref x3), some (.int x4), some (.int x5), some (.int x6), some (.int x7), some (.ref x8), some (.int x9), some (.int x10), none, none, some (.int x13), none, none, none, none, none] [.int s0] h := by
  unfold f_L_isBook_J255
  refine Y.op (pc' := 257) (loc' := [some (.ref x0), some (.ref x1), some (.int x2), some (.ref x3), some (.int x4), some (.int x5), some (.int x6), some (.int x7), some (.ref x8), some (.int x9), some (.int x10), none, none, some (.int x13), some (.int s0), none, none, none, none]) (fun _ => X.istore (Nat.le_of_ble_eq_true rfl) rfl dL_isBook_255) ?_
  refine Y.op (pc' := 258) (fun _ => X.aloadn rfl dL_isBook_257) ?_
  refine Y.op (pc' := 259) (fun _ => X.ic ki_0 dL_isBook_258) ?_
  refine Y.op (pc' := 261) (fun _ => X.iload rfl dL_isBook_259) ?_
  refine Y.op (pc' := 262) (fun _ => X.ic ki_0 dL_isBook_261) ?_
  refine Y.callSWi (As := [.ref x0, .int (0 : Int32), .int x9, .int (0 : Int32)]) lkw_L_of rfl calw_L_of staw_L_of (Nat.le_of_ble_eq_true rfl) rfl rfl (Nat.le_of_ble_eq_true rfl) dL_isBook_262 (fun _ e => m_L_of x0 (0 : Int32) x9 (0 : Int32) h _ e) (fun r1 => ?_)
  refine Y.op (pc' := 267) (fun _ => X.iload rfl dL_isBook_265) ?_
  refine Y.op (pc' := 268) (fun _ => X.iloadn rfl dL_isBook_267) ?_
  refine Y.cmpge 275 (by decide) dL_isBook_268 ?_ ?_
  · refine Y.op (pc' := 276) (fun _ => X.ic ki_0 dL_isBook_275) ?_
    exact y_L_isBook_J276 hkH hkE173 hkE305 hkE340 hkE489 hkE518 hkE526 x0 x1 x2 x3 x4 x5 x6 x7 x8 x9 x10 x13 s0 r1.1 (0 : Int32) r1.2
  · refine Y.op (pc' := 272) (fun _ => X.ic ki_1 dL_isBook_271) ?_
    refine Y.op (pc' := 276) (fun _ => X.goto 276 (by decide) dL_isBook_272) ?_
    exact y_L_isBook_J276 hkH hkE173 hkE305 hkE340 hkE489 hkE518 hkE526 x0 x1 x2 x3 x4 x5 x6 x7 x8 x9 x10 x13 s0 r1.1 (1 : Int32) r1.2
def f_L_isBook_J170 (kH : Nat → Nat → Int32 → Nat → Int32 → Int32 → Int32 → Int32 → Nat → Int32 → xH → Option (Int32 × xH)) (kE173 : xH → Option (Int32 × xH)) (kE305 : xH → Option (Int32 × xH)) (kE340 : xH → Option (Int32 × xH)) (kE489 : xH → Option (Int32 × xH)) (kE518 : xH → Option (Int32 × xH)) (kE526 : Nat → Nat → Int32 → Nat → Int32 → Int32 → Int32 → Int32 → Nat → xH → Option (Int32 × xH)) (x0 : Nat) (x1 : Nat) (x2 : Int32) (x3 : Nat) (x4 : Int32) (x5 : Int32) (x6 : Int32) (x7 : Int32) (x8 : Nat) (x9 : Int32) (x10 : Int32) (s0 : Int32) (s1 : Int32) (h : xH) : Option (Int32 × xH) :=
  if s0 = s1 then
    (vc h 10 x1 (f_X10_like x1 h)).bind fun r1 =>
    (r1.1).bind fun b2 =>
    (gI r1.2 10 b2 3).bind fun v3 =>
    (pI r1.2 10 b2 3 (v3 &&& (((1 : Int32) <<< (x9 &&& 31)) ^^^ (-1 : Int32)))).bind fun h4 =>
    (vc h4 10 b2 (f_X10_most 40 b2 (0 : Int32) (0 : Int32) h4)).bind fun r5 =>
    (gI r5.2 10 x1 3).bind fun v6 =>
    if ((v6 >>> (x9 &&& 31)) &&& (1 : Int32)) = (0 : Int32) then
      f_L_isBook_J255 (kH) kE173 kE305 kE340 kE489 kE518 kE526 x0 x1 x2 x3 x4 x5 x6 x7 x8 x9 x10 r5.1 (0 : Int32) r5.2
    else
      (aI r5.2 x3 (0 : Int32)).bind fun v7 =>
      if ((v7 >>> (x9 &&& 31)) &&& (1 : Int32)) = (1 : Int32) then
        f_L_isBook_J255 (kH) kE173 kE305 kE340 kE489 kE518 kE526 x0 x1 x2 x3 x4 x5 x6 x7 x8 x9 x10 r5.1 (1 : Int32) r5.2
      else
        (aI r5.2 x3 (2 : Int32)).bind fun v8 =>
        if ((v8 >>> (x9 &&& 31)) &&& (1 : Int32)) = (1 : Int32) then
          f_L_isBook_J255 (kH) kE173 kE305 kE340 kE489 kE518 kE526 x0 x1 x2 x3 x4 x5 x6 x7 x8 x9 x10 r5.1 (2 : Int32) r5.2
        else
          f_L_isBook_J255 (kH) kE173 kE305 kE340 kE489 kE518 kE526 x0 x1 x2 x3 x4 x5 x6 x7 x8 x9 x10 r5.1 (3 : Int32) r5.2
  else
    kE173 h
theorem y_L_isBook_J170 {g : xG} {h0 : xH} {kH : Nat → Nat → Int32 → Nat → Int32 → Int32 → Int32 → Int32 → Nat → Int32 → xH → Option (Int32 × xH)} {kE173 : xH → Option (Int32 × xH)} {kE305 : xH → Option (Int32 × xH)} {kE340 : xH → Option (Int32 × xH)} {kE489 : xH → Option (Int32 × xH)} {kE518 : xH → Option (Int32 × xH)} {kE526 : Nat → Nat → Int32 → Nat → Int32 → Int32 → Int32 → Int32 → Nat → xH → Option (Int32 × xH)} (hkH : ∀ (x0 : Nat) (x1 : Nat) (x2 : Int32) (x3 : Nat) (x4 : Int32) (x5 : Int32) (x6 : Int32) (x7 : Int32) (x8 : Nat) (x9 : Int32) (h : xH), Y g DL_isBook h0 false iI (kH x0 x1 x2 x3 x4 x5 x6 x7 x8 x9 h) 32 [some (.ref x0), some (.ref x1), some (.int x2), some (.ref x3), some (.int x4), some (.int x5), some (.int x6), some (.int x7), some (.ref x8), some (.int x9), none, none, none, none, none, none, none, none, none] [] h) (hkE173 : ∀  (h : xH), Y g DL_isBook h0 false iI (kE173  h) 173 [none, none, none, none, none, none, none, none, none, none, none, none, none, none, none, none, none, none, none] [] h) (hkE305 : ∀  (h : xH), Y g DL_isBook h0 false iI (kE305  h) 305 [none, none, none, none, none, none, none, none, none, none, none, none, none, none, none, none, none, none, none] [] h) (hkE340 : ∀  (h : xH), Y g DL_isBook h0 false iI (kE340  h) 340 [none, none, none, none, none, none, none, none, none, none, none, none, none, none, none, none, none, none, none] [] h) (hkE489 : ∀  (h : xH), Y g DL_isBook h0 false iI (kE489  h) 489 [none, none, none, none, none, none, none, none, none, none, none, none, none, none, none, none, none, none, none] [] h) (hkE518 : ∀  (h : xH), Y g DL_isBook h0 false iI (kE518  h) 518 [none, none, none, none, none, none, none, none, none, none, none, none, none, none, none, none, none, none, none] [] h) (hkE526 : ∀ (x0 : Nat) (x1 : Nat) (x2 : Int32) (x3 : Nat) (x4 : Int32) (x5 : Int32) (x6 : Int32) (x7 : Int32) (x8 : Nat) (h : xH), Y g DL_isBook h0 false iI (kE526 x0 x1 x2 x3 x4 x5 x6 x7 x8 h) 526 [some (.ref x0), some (.ref x1), some (.int x2), some (.ref x3), some (.int x4), some (.int x5), some (.int x6), some (.int x7), some (.ref x8), none, none, none, none, none, none, none, none, none, none] [] h) (x0 : Nat) (x1 : Nat) (x2 : Int32) (x3 : Nat) (x4 : Int32) (x5 : Int32) (x6 : Int32) (x7 : Int32) (x8 : Nat) (x9 : Int32) (x10 : Int32) (s0 : Int32) (s1 : Int32) (h : xH) : Y g DL_isBook h0 false iI (f_L_isBook_J170 kH kE173 kE305 kE340 kE489 kE518 kE526 x0 x1 x2 x3 x4 x5 x6 x7 x8 x9 x10 s0 s1 h) 170 [some (.ref x0), some (.ref x1), some (.int x2), some (.ref x3), some (.int x4), some (.int x5), some (.int x6), some (.int x7), some (.ref x8), some (.int x9), some (.int x10), none, none, none, none, none, none, none, none] [.int s1, .int s0] h := by
  unfold f_L_isBook_J170
  refine Y.cmpeq 175 (by decide) dL_isBook_170 ?_ ?_
  · refine Y.op (pc' := 176) (fun _ => X.aloadn rfl dL_isBook_175) ?_
    refine Y.callVn (As := []) lk_L_226 rfl cal_X10_like vir_X10_like (Nat.le_of_ble_eq_true rfl) (Nat.le_of_ble_eq_true rfl) rfl rfl rfl (Nat.le_of_ble_eq_true rfl) dL_isBook_176 (fun _ e => m_X10_like x1 h _ e) (fun r1 => ?_)
    refine Y.un (fun b2 => ?_)
    refine Y.op (pc' := 181) (loc' := [some (.ref x0), some (.ref x1), some (.int x2), some (.ref x3), some (.int x4), some (.int x5), some (.int x6), some (.int x7), some (.ref x8), some (.int x9), some (.int x10), none, some (.ref b2), none, none, none, none, none, none]) (fun _ => X.astore (Nat.le_of_ble_eq_true rfl) rfl dL_isBook_179) ?_
    refine Y.op (pc' := 183) (fun _ => X.aload rfl dL_isBook_181) ?_
    refine Y.op (pc' := 184) (fun _ => X.dup rfl dL_isBook_183) ?_
    refine Y.getI fd_L_147 rfl dL_isBook_184 (fun v3 => ?_)
    refine Y.op (pc' := 188) (fun _ => X.ic ki_1 dL_isBook_187) ?_
    refine Y.op (pc' := 190) (fun _ => X.iload rfl dL_isBook_188) ?_
    refine Y.op (pc' := 191) (fun _ => X.ishl dL_isBook_190) ?_
    refine Y.op (pc' := 192) (fun _ => X.ic ki_m1 dL_isBook_191) ?_
    refine Y.op (pc' := 193) (fun _ => X.ixor dL_isBook_192) ?_
    refine Y.op (pc' := 194) (fun _ => X.iand dL_isBook_193) ?_
    refine Y.putI fd_L_147 rfl dL_isBook_194 (fun h4 => ?_)
    refine Y.op (pc' := 199) (fun _ => X.aload rfl dL_isBook_197) ?_
    refine Y.op (pc' := 200) (fun _ => X.ic ki_0 dL_isBook_199) ?_
    refine Y.op (pc' := 201) (fun _ => X.ic ki_0 dL_isBook_200) ?_
    refine Y.callVi (As := [.int (0 : Int32), .int (0 : Int32)]) lk_L_211 rfl (cal_X10_most _) (vir_X10_most _) (Nat.le_of_ble_eq_true rfl) (Nat.le_of_ble_eq_true rfl) rfl rfl rfl (Nat.le_of_ble_eq_true rfl) dL_isBook_201 (fun _ e => m_X10_most 40 b2 (0 : Int32) (0 : Int32) h4 _ e) (fun r5 => ?_)
    refine Y.op (pc' := 206) (loc' := [some (.ref x0), some (.ref x1), some (.int x2), some (.ref x3), some (.int x4), some (.int x5), some (.int x6), some (.int x7), some (.ref x8), some (.int x9), some (.int x10), none, some (.ref b2), some (.int r5.1), none, none, none, none, none]) (fun _ => X.istore (Nat.le_of_ble_eq_true rfl) rfl dL_isBook_204) ?_
    refine Y.op (pc' := 207) (fun _ => X.aloadn rfl dL_isBook_206) ?_
    refine Y.getI fd_L_147 rfl dL_isBook_207 (fun v6 => ?_)
    refine Y.op (pc' := 212) (fun _ => X.iload rfl dL_isBook_210) ?_
    refine Y.op (pc' := 213) (fun _ => X.ishr dL_isBook_212) ?_
    refine Y.op (pc' := 214) (fun _ => X.ic ki_1 dL_isBook_213) ?_
    refine Y.op (pc' := 215) (fun _ => X.iand dL_isBook_214) ?_
    refine Y.ifne 222 (by decide) dL_isBook_215 ?_ ?_
    · refine Y.op (pc' := 223) (fun _ => X.aloadn rfl dL_isBook_222) ?_
      refine Y.op (pc' := 224) (fun _ => X.ic ki_0 dL_isBook_223) ?_
      refine Y.aldI dL_isBook_224 (fun v7 => ?_)
      refine Y.op (pc' := 227) (fun _ => X.iload rfl dL_isBook_225) ?_
      refine Y.op (pc' := 228) (fun _ => X.ishr dL_isBook_227) ?_
      refine Y.op (pc' := 229) (fun _ => X.ic ki_1 dL_isBook_228) ?_
      refine Y.op (pc' := 230) (fun _ => X.iand dL_isBook_229) ?_
      refine Y.op (pc' := 231) (fun _ => X.ic ki_1 dL_isBook_230) ?_
      refine Y.cmpne 238 (by decide) dL_isBook_231 ?_ ?_
      · refine Y.op (pc' := 239) (fun _ => X.aloadn rfl dL_isBook_238) ?_
        refine Y.op (pc' := 240) (fun _ => X.ic ki_2 dL_isBook_239) ?_
        refine Y.aldI dL_isBook_240 (fun v8 => ?_)
        refine Y.op (pc' := 243) (fun _ => X.iload rfl dL_isBook_241) ?_
        refine Y.op (pc' := 244) (fun _ => X.ishr dL_isBook_243) ?_
        refine Y.op (pc' := 245) (fun _ => X.ic ki_1 dL_isBook_244) ?_
        refine Y.op (pc' := 246) (fun _ => X.iand dL_isBook_245) ?_
        refine Y.op (pc' := 247) (fun _ => X.ic ki_1 dL_isBook_246) ?_
        refine Y.cmpne 254 (by decide) dL_isBook_247 ?_ ?_
        · refine Y.op (pc' := 255) (fun _ => X.ic ki_3 dL_isBook_254) ?_
          exact Y.fg (y_L_isBook_J255 hkH hkE173 hkE305 hkE340 hkE489 hkE518 hkE526 x0 x1 x2 x3 x4 x5 x6 x7 x8 x9 x10 r5.1 (3 : Int32) r5.2) (And.intro rfl (And.intro rfl (And.intro rfl (And.intro rfl (And.intro rfl (And.intro rfl (And.intro rfl (And.intro rfl (And.intro rfl (And.intro rfl (And.intro rfl (And.intro rfl trivial))))))))))))
        · refine Y.op (pc' := 251) (fun _ => X.ic ki_2 dL_isBook_250) ?_
          refine Y.op (pc' := 255) (fun _ => X.goto 255 (by decide) dL_isBook_251) ?_
          exact Y.fg (y_L_isBook_J255 hkH hkE173 hkE305 hkE340 hkE489 hkE518 hkE526 x0 x1 x2 x3 x4 x5 x6 x7 x8 x9 x10 r5.1 (2 : Int32) r5.2) (And.intro rfl (And.intro rfl (And.intro rfl (And.intro rfl (And.intro rfl (And.intro rfl (And.intro rfl (And.intro rfl (And.intro rfl (And.intro rfl (And.intro rfl (And.intro rfl trivial))))))))))))
      · refine Y.op (pc' := 235) (fun _ => X.ic ki_1 dL_isBook_234) ?_
        refine Y.op (pc' := 255) (fun _ => X.goto 255 (by decide) dL_isBook_235) ?_
        exact Y.fg (y_L_isBook_J255 hkH hkE173 hkE305 hkE340 hkE489 hkE518 hkE526 x0 x1 x2 x3 x4 x5 x6 x7 x8 x9 x10 r5.1 (1 : Int32) r5.2) (And.intro rfl (And.intro rfl (And.intro rfl (And.intro rfl (And.intro rfl (And.intro rfl (And.intro rfl (And.intro rfl (And.intro rfl (And.intro rfl (And.intro rfl (And.intro rfl trivial))))))))))))
    · refine Y.op (pc' := 219) (fun _ => X.ic ki_0 dL_isBook_218) ?_
      refine Y.op (pc' := 255) (fun _ => X.goto 255 (by decide) dL_isBook_219) ?_
      exact Y.fg (y_L_isBook_J255 hkH hkE173 hkE305 hkE340 hkE489 hkE518 hkE526 x0 x1 x2 x3 x4 x5 x6 x7 x8 x9 x10 r5.1 (0 : Int32) r5.2) (And.intro rfl (And.intro rfl (And.intro rfl (And.intro rfl (And.intro rfl (And.intro rfl (And.intro rfl (And.intro rfl (And.intro rfl (And.intro rfl (And.intro rfl (And.intro rfl trivial))))))))))))
  · exact Y.fg (hkE173 h) trivial
def f_L_isBook_J148 (kH : Nat → Nat → Int32 → Nat → Int32 → Int32 → Int32 → Int32 → Nat → Int32 → xH → Option (Int32 × xH)) (kE173 : xH → Option (Int32 × xH)) (kE305 : xH → Option (Int32 × xH)) (kE340 : xH → Option (Int32 × xH)) (kE489 : xH → Option (Int32 × xH)) (kE518 : xH → Option (Int32 × xH)) (kE526 : Nat → Nat → Int32 → Nat → Int32 → Int32 → Int32 → Int32 → Nat → xH → Option (Int32 × xH)) (x0 : Nat) (x1 : Nat) (x2 : Int32) (x3 : Nat) (x4 : Int32) (x5 : Int32) (x6 : Int32) (x7 : Int32) (x8 : Nat) (x9 : Int32) (x10 : Int32) (x11 : Option Nat) (s0 : Int32) (s1 : Int32) (h : xH) : Option (Int32 × xH) :=
  if s0 = s1 then
    (f_L_wayFrom x0 x9 (1 : Int32) h).bind fun r1 =>
    nl x11
      (f_L_isBook_J170 (kH) kE173 kE305 kE340 kE489 kE518 kE526 x0 x1 x2 x3 x4 x5 x6 x7 x8 x9 x10 r1.1 (0 : Int32) r1.2)
      (fun b2 =>
      (aL r1.2 b2).bind fun v3 =>
      f_L_isBook_J170 (kH) kE173 kE305 kE340 kE489 kE518 kE526 x0 x1 x2 x3 x4 x5 x6 x7 x8 x9 x10 r1.1 v3 r1.2)
  else
    kE173 h
theorem y_L_isBook_J148 {g : xG} {h0 : xH} {kH : Nat → Nat → Int32 → Nat → Int32 → Int32 → Int32 → Int32 → Nat → Int32 → xH → Option (Int32 × xH)} {kE173 : xH → Option (Int32 × xH)} {kE305 : xH → Option (Int32 × xH)} {kE340 : xH → Option (Int32 × xH)} {kE489 : xH → Option (Int32 × xH)} {kE518 : xH → Option (Int32 × xH)} {kE526 : Nat → Nat → Int32 → Nat → Int32 → Int32 → Int32 → Int32 → Nat → xH → Option (Int32 × xH)} (hkH : ∀ (x0 : Nat) (x1 : Nat) (x2 : Int32) (x3 : Nat) (x4 : Int32) (x5 : Int32) (x6 : Int32) (x7 : Int32) (x8 : Nat) (x9 : Int32) (h : xH), Y g DL_isBook h0 false iI (kH x0 x1 x2 x3 x4 x5 x6 x7 x8 x9 h) 32 [some (.ref x0), some (.ref x1), some (.int x2), some (.ref x3), some (.int x4), some (.int x5), some (.int x6), some (.int x7), some (.ref x8), some (.int x9), none, none, none, none, none, none, none, none, none] [] h) (hkE173 : ∀  (h : xH), Y g DL_isBook h0 false iI (kE173  h) 173 [none, none, none, none, none, none, none, none, none, none, none, none, none, none, none, none, none, none, none] [] h) (hkE305 : ∀  (h : xH), Y g DL_isBook h0 false iI (kE305  h) 305 [none, none, none, none, none, none, none, none, none, none, none, none, none, none, none, none, none, none, none] [] h) (hkE340 : ∀  (h : xH), Y g DL_isBook h0 false iI (kE340  h) 340 [none, none, none, none, none, none, none, none, none, none, none, none, none, none, none, none, none, none, none] [] h) (hkE489 : ∀  (h : xH), Y g DL_isBook h0 false iI (kE489  h) 489 [none, none, none, none, none, none, none, none, none, none, none, none, none, none, none, none, none, none, none] [] h) (hkE518 : ∀  (h : xH), Y g DL_isBook h0 false iI (kE518  h) 518 [none, none, none, none, none, none, none, none, none, none, none, none, none, none, none, none, none, none, none] [] h) (hkE526 : ∀ (x0 : Nat) (x1 : Nat) (x2 : Int32) (x3 : Nat) (x4 : Int32) (x5 : Int32) (x6 : Int32) (x7 : Int32) (x8 : Nat) (h : xH), Y g DL_isBook h0 false iI (kE526 x0 x1 x2 x3 x4 x5 x6 x7 x8 h) 526 [some (.ref x0), some (.ref x1), some (.int x2), some (.ref x3), some (.int x4), some (.int x5), some (.int x6), some (.int x7), some (.ref x8), none, none, none, none, none, none, none, none, none, none] [] h) (x0 : Nat) (x1 : Nat) (x2 : Int32) (x3 : Nat) (x4 : Int32) (x5 : Int32) (x6 : Int32) (x7 : Int32) (x8 : Nat) (x9 : Int32) (x10 : Int32) (x11 : Option Nat) (s0 : Int32) (s1 : Int32) (h : xH) : Y g DL_isBook h0 false iI (f_L_isBook_J148 kH kE173 kE305 kE340 kE489 kE518 kE526 x0 x1 x2 x3 x4 x5 x6 x7 x8 x9 x10 x11 s0 s1 h) 148 [some (.ref x0), some (.ref x1), some (.int x2), some (.ref x3), some (.int x4), some (.int x5), some (.int x6), some (.int x7), some (.ref x8), some (.int x9), some (.int x10), some (rv x11), none, none, none, none, none, none, none] [.int s1, .int s0] h := by
  unfold f_L_isBook_J148
  refine Y.cmpne 173 (by decide) dL_isBook_148 ?_ ?_
  · exact Y.fg (hkE173 h) trivial
  · refine Y.op (pc' := 152) (fun _ => X.aloadn rfl dL_isBook_151) ?_
    refine Y.op (pc' := 154) (fun _ => X.iload rfl dL_isBook_152) ?_
    refine Y.op (pc' := 155) (fun _ => X.ic ki_1 dL_isBook_154) ?_
    refine Y.callSWi (As := [.ref x0, .int x9, .int (1 : Int32)]) lkw_L_wayFrom rfl calw_L_wayFrom staw_L_wayFrom (Nat.le_of_ble_eq_true rfl) rfl rfl (Nat.le_of_ble_eq_true rfl) dL_isBook_155 (fun _ e => m_L_wayFrom x0 x9 (1 : Int32) h _ e) (fun r1 => ?_)
    refine Y.op (pc' := 160) (fun _ => X.aloadO2 rfl dL_isBook_158) ?_
    generalize x11 = o_b2
    cases o_b2 with
    | none =>
      refine Y.op (pc' := 163) (fun _ => X.ifnonnullN dL_isBook_160) ?_
      refine Y.op (pc' := 164) (fun _ => X.ic ki_0 dL_isBook_163) ?_
      refine Y.op (pc' := 170) (fun _ => X.goto 170 (by decide) dL_isBook_164) ?_
      exact Y.fg (y_L_isBook_J170 hkH hkE173 hkE305 hkE340 hkE489 hkE518 hkE526 x0 x1 x2 x3 x4 x5 x6 x7 x8 x9 x10 r1.1 (0 : Int32) r1.2) (And.intro rfl (And.intro rfl (And.intro rfl (And.intro rfl (And.intro rfl (And.intro rfl (And.intro rfl (And.intro rfl (And.intro rfl (And.intro rfl (And.intro rfl trivial)))))))))))
    | some b2 =>
      refine Y.op (pc' := 167) (fun _ => X.ifnonnullR 167 (by decide) dL_isBook_160) ?_
      refine Y.op (pc' := 169) (fun _ => X.aload rfl dL_isBook_167) ?_
      refine Y.alen dL_isBook_169 (fun v3 => ?_)
      exact Y.fg (y_L_isBook_J170 hkH hkE173 hkE305 hkE340 hkE489 hkE518 hkE526 x0 x1 x2 x3 x4 x5 x6 x7 x8 x9 x10 r1.1 v3 r1.2) (And.intro rfl (And.intro rfl (And.intro rfl (And.intro rfl (And.intro rfl (And.intro rfl (And.intro rfl (And.intro rfl (And.intro rfl (And.intro rfl (And.intro rfl trivial)))))))))))
def f_L_isBook_J103 (kH : Nat → Nat → Int32 → Nat → Int32 → Int32 → Int32 → Int32 → Nat → Int32 → xH → Option (Int32 × xH)) (kE173 : xH → Option (Int32 × xH)) (kE305 : xH → Option (Int32 × xH)) (kE340 : xH → Option (Int32 × xH)) (kE489 : xH → Option (Int32 × xH)) (kE518 : xH → Option (Int32 × xH)) (kE526 : Nat → Nat → Int32 → Nat → Int32 → Int32 → Int32 → Int32 → Nat → xH → Option (Int32 × xH)) (x0 : Nat) (x1 : Nat) (x2 : Int32) (x3 : Nat) (x4 : Int32) (x5 : Int32) (x6 : Int32) (x7 : Int32) (x8 : Nat) (x9 : Int32) (h : xH) : Option (Int32 × xH) :=
  (vc h 10 x1 (f_X10_way x1 x9 h)).bind fun r1 =>
  (f_L_partner x0 (0 : Int32) x9 r1.2).bind fun r2 =>
  (gR r2.2 10 x1 6).bind fun v3 =>
  (aI r2.2 v3 x9).bind fun v4 =>
  if r2.1 = v4 then
    (f_L_wayFrom x0 x9 (0 : Int32) r2.2).bind fun r5 =>
    nl r1.1
      (f_L_isBook_J148 (kH) kE173 kE305 kE340 kE489 kE518 kE526 x0 x1 x2 x3 x4 x5 x6 x7 x8 x9 (0 : Int32) none r5.1 (0 : Int32) r5.2)
      (fun b6 =>
      f_L_isBook_J148 (kH) kE173 kE305 kE340 kE489 kE518 kE526 x0 x1 x2 x3 x4 x5 x6 x7 x8 x9 (0 : Int32) (some b6) r5.1 (1 : Int32) r5.2)
  else
    kE173 r2.2
theorem y_L_isBook_J103 {g : xG} {h0 : xH} {kH : Nat → Nat → Int32 → Nat → Int32 → Int32 → Int32 → Int32 → Nat → Int32 → xH → Option (Int32 × xH)} {kE173 : xH → Option (Int32 × xH)} {kE305 : xH → Option (Int32 × xH)} {kE340 : xH → Option (Int32 × xH)} {kE489 : xH → Option (Int32 × xH)} {kE518 : xH → Option (Int32 × xH)} {kE526 : Nat → Nat → Int32 → Nat → Int32 → Int32 → Int32 → Int32 → Nat → xH → Option (Int32 × xH)} (hkH : ∀ (x0 : Nat) (x1 : Nat) (x2 : Int32) (x3 : Nat) (x4 : Int32) (x5 : Int32) (x6 : Int32) (x7 : Int32) (x8 : Nat) (x9 : Int32) (h : xH), Y g DL_isBook h0 false iI (kH x0 x1 x2 x3 x4 x5 x6 x7 x8 x9 h) 32 [some (.ref x0), some (.ref x1), some (.int x2), some (.ref x3), some (.int x4), some (.int x5), some (.int x6), some (.int x7), some (.ref x8), some (.int x9), none, none, none, none, none, none, none, none, none] [] h) (hkE173 : ∀  (h : xH), Y g DL_isBook h0 false iI (kE173  h) 173 [none, none, none, none, none, none, none, none, none, none, none, none, none, none, none, none, none, none, none] [] h) (hkE305 : ∀  (h : xH), Y g DL_isBook h0 false iI (kE305  h) 305 [none, none, none, none, none, none, none, none, none, none, none, none, none, none, none, none, none, none, none] [] h) (hkE340 : ∀  (h : xH), Y g DL_isBook h0 false iI (kE340  h) 340 [none, none, none, none, none, none, none, none, none, none, none, none, none, none, none, none, none, none, none] [] h) (hkE489 : ∀  (h : xH), Y g DL_isBook h0 false iI (kE489  h) 489 [none, none, none, none, none, none, none, none, none, none, none, none, none, none, none, none, none, none, none] [] h) (hkE518 : ∀  (h : xH), Y g DL_isBook h0 false iI (kE518  h) 518 [none, none, none, none, none, none, none, none, none, none, none, none, none, none, none, none, none, none, none] [] h) (hkE526 : ∀ (x0 : Nat) (x1 : Nat) (x2 : Int32) (x3 : Nat) (x4 : Int32) (x5 : Int32) (x6 : Int32) (x7 : Int32) (x8 : Nat) (h : xH), Y g DL_isBook h0 false iI (kE526 x0 x1 x2 x3 x4 x5 x6 x7 x8 h) 526 [some (.ref x0), some (.ref x1), some (.int x2), some (.ref x3), some (.int x4), some (.int x5), some (.int x6), some (.int x7), some (.ref x8), none, none, none, none, none, none, none, none, none, none] [] h) (x0 : Nat) (x1 : Nat) (x2 : Int32) (x3 : Nat) (x4 : Int32) (x5 : Int32) (x6 : Int32) (x7 : Int32) (x8 : Nat) (x9 : Int32) (h : xH) : Y g DL_isBook h0 false iI (f_L_isBook_J103 kH kE173 kE305 kE340 kE489 kE518 kE526 x0 x1 x2 x3 x4 x5 x6 x7 x8 x9 h) 103 [some (.ref x0), some (.ref x1), some (.int x2), some (.ref x3), some (.int x4), some (.int x5), some (.int x6), some (.int x7), some (.ref x8), some (.int x9), none, none, none, none, none, none, none, none, none] [] h := by
  unfold f_L_isBook_J103
  refine Y.op (pc' := 104) (fun _ => X.ic ki_0 dL_isBook_103) ?_
  refine Y.op (pc' := 106) (loc' := [some (.ref x0), some (.ref x1), some (.int x2), some (.ref x3), some (.int x4), some (.int x5), some (.int x6), some (.int x7), some (.ref x8), some (.int x9), some (.int (0 : Int32)), none, none, none, none, none, none, none, none]) (fun _ => X.istore (Nat.le_of_ble_eq_true rfl) rfl dL_isBook_104) ?_
  refine Y.op (pc' := 107) (fun _ => X.aloadn rfl dL_isBook_106) ?_
  refine Y.op (pc' := 109) (fun _ => X.iload rfl dL_isBook_107) ?_
  refine Y.callVn (As := [.int x9]) lk_L_217 rfl cal_X10_way vir_X10_way (Nat.le_of_ble_eq_true rfl) (Nat.le_of_ble_eq_true rfl) rfl rfl rfl (Nat.le_of_ble_eq_true rfl) dL_isBook_109 (fun _ e => m_X10_way x1 x9 h _ e) (fun r1 => ?_)
  refine Y.op (pc' := 114) (loc' := [some (.ref x0), some (.ref x1), some (.int x2), some (.ref x3), some (.int x4), some (.int x5), some (.int x6), some (.int x7), some (.ref x8), some (.int x9), some (.int (0 : Int32)), some (rv r1.1), none, none, none, none, none, none, none]) (fun _ => X.astoreO2 (Nat.le_of_ble_eq_true rfl) rfl dL_isBook_112) ?_
  refine Y.op (pc' := 115) (fun _ => X.aloadn rfl dL_isBook_114) ?_
  refine Y.op (pc' := 116) (fun _ => X.ic ki_0 dL_isBook_115) ?_
  refine Y.op (pc' := 118) (fun _ => X.iload rfl dL_isBook_116) ?_
  refine Y.callSWi (As := [.ref x0, .int (0 : Int32), .int x9]) lkw_L_partner rfl calw_L_partner staw_L_partner (Nat.le_of_ble_eq_true rfl) rfl rfl (Nat.le_of_ble_eq_true rfl) dL_isBook_118 (fun _ e => m_L_partner x0 (0 : Int32) x9 r1.2 _ e) (fun r2 => ?_)
  refine Y.op (pc' := 122) (fun _ => X.aloadn rfl dL_isBook_121) ?_
  refine Y.getR fd_L_189 rfl dL_isBook_122 (fun v3 => ?_)
  refine Y.op (pc' := 127) (fun _ => X.iload rfl dL_isBook_125) ?_
  refine Y.aldI dL_isBook_127 (fun v4 => ?_)
  refine Y.cmpne 173 (by decide) dL_isBook_128 ?_ ?_
  · exact Y.fg (hkE173 r2.2) trivial
  · refine Y.op (pc' := 132) (fun _ => X.aloadn rfl dL_isBook_131) ?_
    refine Y.op (pc' := 134) (fun _ => X.iload rfl dL_isBook_132) ?_
    refine Y.op (pc' := 135) (fun _ => X.ic ki_0 dL_isBook_134) ?_
    refine Y.callSWi (As := [.ref x0, .int x9, .int (0 : Int32)]) lkw_L_wayFrom rfl calw_L_wayFrom staw_L_wayFrom (Nat.le_of_ble_eq_true rfl) rfl rfl (Nat.le_of_ble_eq_true rfl) dL_isBook_135 (fun _ e => m_L_wayFrom x0 x9 (0 : Int32) r2.2 _ e) (fun r5 => ?_)
    refine Y.op (pc' := 140) (fun _ => X.aloadO2 rfl dL_isBook_138) ?_
    generalize r1.1 = o_b6
    cases o_b6 with
    | none =>
      refine Y.op (pc' := 143) (fun _ => X.ifnonnullN dL_isBook_140) ?_
      refine Y.op (pc' := 144) (fun _ => X.ic ki_0 dL_isBook_143) ?_
      refine Y.op (pc' := 148) (fun _ => X.goto 148 (by decide) dL_isBook_144) ?_
      exact y_L_isBook_J148 hkH hkE173 hkE305 hkE340 hkE489 hkE518 hkE526 x0 x1 x2 x3 x4 x5 x6 x7 x8 x9 (0 : Int32) none r5.1 (0 : Int32) r5.2
    | some b6 =>
      refine Y.op (pc' := 147) (fun _ => X.ifnonnullR 147 (by decide) dL_isBook_140) ?_
      refine Y.op (pc' := 148) (fun _ => X.ic ki_1 dL_isBook_147) ?_
      exact y_L_isBook_J148 hkH hkE173 hkE305 hkE340 hkE489 hkE518 hkE526 x0 x1 x2 x3 x4 x5 x6 x7 x8 x9 (0 : Int32) (some b6) r5.1 (1 : Int32) r5.2
def f_L_isBook_J73 (kH : Nat → Nat → Int32 → Nat → Int32 → Int32 → Int32 → Int32 → Nat → Int32 → xH → Option (Int32 × xH)) (kE173 : xH → Option (Int32 × xH)) (kE305 : xH → Option (Int32 × xH)) (kE340 : xH → Option (Int32 × xH)) (kE489 : xH → Option (Int32 × xH)) (kE518 : xH → Option (Int32 × xH)) (kE526 : Nat → Nat → Int32 → Nat → Int32 → Int32 → Int32 → Int32 → Nat → xH → Option (Int32 × xH)) (x0 : Nat) (x1 : Nat) (x2 : Int32) (x3 : Nat) (x4 : Int32) (x5 : Int32) (x6 : Int32) (x7 : Int32) (x8 : Nat) (x9 : Int32) (h : xH) : Option (Int32 × xH) :=
  (gR h 10 x1 6).bind fun v1 =>
  (aI h v1 x9).bind fun v2 =>
  if v2 < (0 : Int32) then
    f_L_isBook_J103 (kH) kE173 kE305 kE340 kE489 kE518 kE526 x0 x1 x2 x3 x4 x5 x6 x7 x8 x9 h
  else
    (gR h 10 x1 5).bind fun v3 =>
    (aR 102 h v3 x9).bind fun v4 =>
    (gR h 10 x1 6).bind fun v5 =>
    (aI h v5 x9).bind fun v6 =>
    (aI h v4 v6).bind fun v7 =>
    lt ((x7 + v7)) fun v8 =>
    f_L_isBook_J103 (kH) kE173 kE305 kE340 kE489 kE518 kE526 x0 x1 x2 x3 x4 x5 x6 v8 x8 x9 h
theorem y_L_isBook_J73 {g : xG} {h0 : xH} {kH : Nat → Nat → Int32 → Nat → Int32 → Int32 → Int32 → Int32 → Nat → Int32 → xH → Option (Int32 × xH)} {kE173 : xH → Option (Int32 × xH)} {kE305 : xH → Option (Int32 × xH)} {kE340 : xH → Option (Int32 × xH)} {kE489 : xH → Option (Int32 × xH)} {kE518 : xH → Option (Int32 × xH)} {kE526 : Nat → Nat → Int32 → Nat → Int32 → Int32 → Int32 → Int32 → Nat → xH → Option (Int32 × xH)} (hkH : ∀ (x0 : Nat) (x1 : Nat) (x2 : Int32) (x3 : Nat) (x4 : Int32) (x5 : Int32) (x6 : Int32) (x7 : Int32) (x8 : Nat) (x9 : Int32) (h : xH), Y g DL_isBook h0 false iI (kH x0 x1 x2 x3 x4 x5 x6 x7 x8 x9 h) 32 [some (.ref x0), some (.ref x1), some (.int x2), some (.ref x3), some (.int x4), some (.int x5), some (.int x6), some (.int x7), some (.ref x8), some (.int x9), none, none, none, none, none, none, none, none, none] [] h) (hkE173 : ∀  (h : xH), Y g DL_isBook h0 false iI (kE173  h) 173 [none, none, none, none, none, none, none, none, none, none, none, none, none, none, none, none, none, none, none] [] h) (hkE305 : ∀  (h : xH), Y g DL_isBook h0 false iI (kE305  h) 305 [none, none, none, none, none, none, none, none, none, none, none, none, none, none, none, none, none, none, none] [] h) (hkE340 : ∀  (h : xH), Y g DL_isBook h0 false iI (kE340  h) 340 [none, none, none, none, none, none, none, none, none, none, none, none, none, none, none, none, none, none, none] [] h) (hkE489 : ∀  (h : xH), Y g DL_isBook h0 false iI (kE489  h) 489 [none, none, none, none, none, none, none, none, none, none, none, none, none, none, none, none, none, none, none] [] h) (hkE518 : ∀  (h : xH), Y g DL_isBook h0 false iI (kE518  h) 518 [none, none, none, none, none, none, none, none, none, none, none, none, none, none, none, none, none, none, none] [] h) (hkE526 : ∀ (x0 : Nat) (x1 : Nat) (x2 : Int32) (x3 : Nat) (x4 : Int32) (x5 : Int32) (x6 : Int32) (x7 : Int32) (x8 : Nat) (h : xH), Y g DL_isBook h0 false iI (kE526 x0 x1 x2 x3 x4 x5 x6 x7 x8 h) 526 [some (.ref x0), some (.ref x1), some (.int x2), some (.ref x3), some (.int x4), some (.int x5), some (.int x6), some (.int x7), some (.ref x8), none, none, none, none, none, none, none, none, none, none] [] h) (x0 : Nat) (x1 : Nat) (x2 : Int32) (x3 : Nat) (x4 : Int32) (x5 : Int32) (x6 : Int32) (x7 : Int32) (x8 : Nat) (x9 : Int32) (h : xH) : Y g DL_isBook h0 false iI (f_L_isBook_J73 kH kE173 kE305 kE340 kE489 kE518 kE526 x0 x1 x2 x3 x4 x5 x6 x7 x8 x9 h) 73 [some (.ref x0), some (.ref x1), some (.int x2), some (.ref x3), some (.int x4), some (.int x5), some (.int x6), some (.int x7), some (.ref x8), some (.int x9), none, none, none, none, none, none, none, none, none] [] h := by
  unfold f_L_isBook_J73
  refine Y.op (pc' := 74) (fun _ => X.aloadn rfl dL_isBook_73) ?_
  refine Y.getR fd_L_189 rfl dL_isBook_74 (fun v1 => ?_)
  refine Y.op (pc' := 79) (fun _ => X.iload rfl dL_isBook_77) ?_
  refine Y.aldI dL_isBook_79 (fun v2 => ?_)
  refine Y.iflt 103 (by decide) dL_isBook_80 ?_ ?_
  · exact y_L_isBook_J103 hkH hkE173 hkE305 hkE340 hkE489 hkE518 hkE526 x0 x1 x2 x3 x4 x5 x6 x7 x8 x9 h
  · refine Y.op (pc' := 85) (fun _ => X.iload rfl dL_isBook_83) ?_
    refine Y.op (pc' := 86) (fun _ => X.aloadn rfl dL_isBook_85) ?_
    refine Y.getR fd_L_171 rfl dL_isBook_86 (fun v3 => ?_)
    refine Y.op (pc' := 91) (fun _ => X.iload rfl dL_isBook_89) ?_
    refine Y.aldR 102 (by decide) (by decide) dL_isBook_91 (fun v4 => ?_)
    refine Y.op (pc' := 93) (fun _ => X.aloadn rfl dL_isBook_92) ?_
    refine Y.getR fd_L_189 rfl dL_isBook_93 (fun v5 => ?_)
    refine Y.op (pc' := 98) (fun _ => X.iload rfl dL_isBook_96) ?_
    refine Y.aldI dL_isBook_98 (fun v6 => ?_)
    refine Y.aldI dL_isBook_99 (fun v7 => ?_)
    refine Y.op (pc' := 101) (fun _ => X.iadd dL_isBook_100) ?_
    refine Y.top (fun v8 => ?_)
    refine Y.op (pc' := 103) (loc' := [some (.ref x0), some (.ref x1), some (.int x2), some (.ref x3), some (.int x4), some (.int x5), some (.int x6), some (.int v8), some (.ref x8), some (.int x9), none, none, none, none, none, none, none, none, none]) (fun _ => X.istore (Nat.le_of_ble_eq_true rfl) rfl dL_isBook_101) ?_
    exact y_L_isBook_J103 hkH hkE173 hkE305 hkE340 hkE489 hkE518 hkE526 x0 x1 x2 x3 x4 x5 x6 v8 x8 x9 h
def f_L_isBook_L32 (kE173 : xH → Option (Int32 × xH)) (kE305 : xH → Option (Int32 × xH)) (kE340 : xH → Option (Int32 × xH)) (kE489 : xH → Option (Int32 × xH)) (kE518 : xH → Option (Int32 × xH)) (kE526 : Nat → Nat → Int32 → Nat → Int32 → Int32 → Int32 → Int32 → Nat → xH → Option (Int32 × xH)) : Nat → Nat → Nat → Int32 → Nat → Int32 → Int32 → Int32 → Int32 → Nat → Int32 → xH → Option (Int32 × xH)
  | 0 => fun _ _ _ _ _ _ _ _ _ _ _ => none
  | n + 1 => fun x0 x1 x2 x3 x4 x5 x6 x7 x8 x9 h =>
    (gI h 10 x1 0).bind fun v1 =>
    if x9 ≥ v1 then
      kE526 x0 x1 x2 x3 x4 x5 x6 x7 x8 h
    else
      (gI h 10 x1 3).bind fun v2 =>
      if ((v2 >>> (x9 &&& 31)) &&& (1 : Int32)) = (1 : Int32) then
        (gR h 10 x1 6).bind fun v3 =>
        (aI h v3 x9).bind fun v4 =>
        if v4 ≥ (0 : Int32) then
          f_L_isBook_J73 (f_L_isBook_L32 kE173 kE305 kE340 kE489 kE518 kE526 n) kE173 kE305 kE340 kE489 kE518 kE526 x0 x1 x2 x3 x4 x5 x6 x7 x8 x9 h
        else
          lt ((x4 ||| ((1 : Int32) <<< (x9 &&& 31)))) fun v5 =>
          f_L_isBook_J73 (f_L_isBook_L32 kE173 kE305 kE340 kE489 kE518 kE526 n) kE173 kE305 kE340 kE489 kE518 kE526 x0 x1 x2 x3 v5 x5 x6 x7 x8 x9 h
      else
        f_L_isBook_J73 (f_L_isBook_L32 kE173 kE305 kE340 kE489 kE518 kE526 n) kE173 kE305 kE340 kE489 kE518 kE526 x0 x1 x2 x3 x4 x5 x6 x7 x8 x9 h
theorem y_L_isBook_L32 {g : xG} {h0 : xH} {kE173 : xH → Option (Int32 × xH)} {kE305 : xH → Option (Int32 × xH)} {kE340 : xH → Option (Int32 × xH)} {kE489 : xH → Option (Int32 × xH)} {kE518 : xH → Option (Int32 × xH)} {kE526 : Nat → Nat → Int32 → Nat → Int32 → Int32 → Int32 → Int32 → Nat → xH → Option (Int32 × xH)} (hkE173 : ∀  (h : xH), Y g DL_isBook h0 false iI (kE173  h) 173 [none, none, none, none, none, none, none, none, none, none, none, none, none, none, none, none, none, none, none] [] h) (hkE305 : ∀  (h : xH), Y g DL_isBook h0 false iI (kE305  h) 305 [none, none, none, none, none, none, none, none, none, none, none, none, none, none, none, none, none, none, none] [] h) (hkE340 : ∀  (h : xH), Y g DL_isBook h0 false iI (kE340  h) 340 [none, none, none, none, none, none, none, none, none, none, none, none, none, none, none, none, none, none, none] [] h) (hkE489 : ∀  (h : xH), Y g DL_isBook h0 false iI (kE489  h) 489 [none, none, none, none, none, none, none, none, none, none, none, none, none, none, none, none, none, none, none] [] h) (hkE518 : ∀  (h : xH), Y g DL_isBook h0 false iI (kE518  h) 518 [none, none, none, none, none, none, none, none, none, none, none, none, none, none, none, none, none, none, none] [] h) (hkE526 : ∀ (x0 : Nat) (x1 : Nat) (x2 : Int32) (x3 : Nat) (x4 : Int32) (x5 : Int32) (x6 : Int32) (x7 : Int32) (x8 : Nat) (h : xH), Y g DL_isBook h0 false iI (kE526 x0 x1 x2 x3 x4 x5 x6 x7 x8 h) 526 [some (.ref x0), some (.ref x1), some (.int x2), some (.ref x3), some (.int x4), some (.int x5), some (.int x6), some (.int x7), some (.ref x8), none, none, none, none, none, none, none, none, none, none] [] h) : ∀ (n : Nat) (x0 : Nat) (x1 : Nat) (x2 : Int32) (x3 : Nat) (x4 : Int32) (x5 : Int32) (x6 : Int32) (x7 : Int32) (x8 : Nat) (x9 : Int32) (h : xH), Y g DL_isBook h0 false iI (f_L_isBook_L32 kE173 kE305 kE340 kE489 kE518 kE526 n x0 x1 x2 x3 x4 x5 x6 x7 x8 x9 h) 32 [some (.ref x0), some (.ref x1), some (.int x2), some (.ref x3), some (.int x4), some (.int x5), some (.int x6), some (.int x7), some (.ref x8), some (.int x9), none, none, none, none, none, none, none, none, none] [] h := by
  intro n
  induction n with
  | zero => intro x0 x1 x2 x3 x4 x5 x6 x7 x8 x9 h; exact Y.nothing
  | succ n ih =>
    intro x0 x1 x2 x3 x4 x5 x6 x7 x8 x9 h
    unfold f_L_isBook_L32
    refine Y.op (pc' := 34) (fun _ => X.iload rfl dL_isBook_32) ?_
    refine Y.op (pc' := 35) (fun _ => X.aloadn rfl dL_isBook_34) ?_
    refine Y.getI fd_L_138 rfl dL_isBook_35 (fun v1 => ?_)
    refine Y.cmpge 526 (by decide) dL_isBook_38 ?_ ?_
    · exact Y.fg (hkE526 x0 x1 x2 x3 x4 x5 x6 x7 x8 h) (And.intro rfl (And.intro rfl (And.intro rfl (And.intro rfl (And.intro rfl (And.intro rfl (And.intro rfl (And.intro rfl (And.intro rfl trivial)))))))))
    · refine Y.op (pc' := 42) (fun _ => X.aloadn rfl dL_isBook_41) ?_
      refine Y.getI fd_L_147 rfl dL_isBook_42 (fun v2 => ?_)
      refine Y.op (pc' := 47) (fun _ => X.iload rfl dL_isBook_45) ?_
      refine Y.op (pc' := 48) (fun _ => X.ishr dL_isBook_47) ?_
      refine Y.op (pc' := 49) (fun _ => X.ic ki_1 dL_isBook_48) ?_
      refine Y.op (pc' := 50) (fun _ => X.iand dL_isBook_49) ?_
      refine Y.op (pc' := 51) (fun _ => X.ic ki_1 dL_isBook_50) ?_
      refine Y.cmpne 73 (by decide) dL_isBook_51 ?_ ?_
      · exact y_L_isBook_J73 ih hkE173 hkE305 hkE340 hkE489 hkE518 hkE526 x0 x1 x2 x3 x4 x5 x6 x7 x8 x9 h
      · refine Y.op (pc' := 55) (fun _ => X.aloadn rfl dL_isBook_54) ?_
        refine Y.getR fd_L_189 rfl dL_isBook_55 (fun v3 => ?_)
        refine Y.op (pc' := 60) (fun _ => X.iload rfl dL_isBook_58) ?_
        refine Y.aldI dL_isBook_60 (fun v4 => ?_)
        refine Y.ifge 73 (by decide) dL_isBook_61 ?_ ?_
        · exact y_L_isBook_J73 ih hkE173 hkE305 hkE340 hkE489 hkE518 hkE526 x0 x1 x2 x3 x4 x5 x6 x7 x8 x9 h
        · refine Y.op (pc' := 66) (fun _ => X.iload rfl dL_isBook_64) ?_
          refine Y.op (pc' := 67) (fun _ => X.ic ki_1 dL_isBook_66) ?_
          refine Y.op (pc' := 69) (fun _ => X.iload rfl dL_isBook_67) ?_
          refine Y.op (pc' := 70) (fun _ => X.ishl dL_isBook_69) ?_
          refine Y.op (pc' := 71) (fun _ => X.ior dL_isBook_70) ?_
          refine Y.top (fun v5 => ?_)
          refine Y.op (pc' := 73) (loc' := [some (.ref x0), some (.ref x1), some (.int x2), some (.ref x3), some (.int v5), some (.int x5), some (.int x6), some (.int x7), some (.ref x8), some (.int x9), none, none, none, none, none, none, none, none, none]) (fun _ => X.istore (Nat.le_of_ble_eq_true rfl) rfl dL_isBook_71) ?_
          exact y_L_isBook_J73 ih hkE173 hkE305 hkE340 hkE489 hkE518 hkE526 x0 x1 x2 x3 v5 x5 x6 x7 x8 x9 h
def f_L_isBook (p1 : Nat) (p2 : Nat) (h : xH) : Option (Int32 × xH) :=
  (vc h 10 p2 (f_X10_most 40 p2 (0 : Int32) (0 : Int32) h)).bind fun r1 =>
  (vc r1.2 10 p2 (f_X10_reached p2 r1.2)).bind fun r2 =>
  (r2.1).bind fun b3 =>
  (nwI r2.2 (4 : Int32)).bind fun r4 =>
  f_L_isBook_L32 (f_L_isBook_J173) (f_L_isBook_J305) (f_L_isBook_J340) (f_L_isBook_J489) (f_L_isBook_J518) (f_L_isBook_J526) 5000 p1 p2 r1.1 b3 (0 : Int32) (0 : Int32) (0 : Int32) (0 : Int32) r4.1 (0 : Int32) r4.2
theorem y_L_isBook {g : xG} {h0 : xH} (p1 : Nat) (p2 : Nat) (h : xH) : Y g DL_isBook h0 false iI (f_L_isBook p1 p2 h) 0 [some (.ref p1), some (.ref p2), none, none, none, none, none, none, none, none, none, none, none, none, none, none, none, none, none] [] h := by
  unfold f_L_isBook
  refine Y.op (pc' := 1) (fun _ => X.aloadn rfl dL_isBook_0) ?_
  refine Y.op (pc' := 2) (fun _ => X.ic ki_0 dL_isBook_1) ?_
  refine Y.op (pc' := 3) (fun _ => X.ic ki_0 dL_isBook_2) ?_
  refine Y.callVi (As := [.int (0 : Int32), .int (0 : Int32)]) lk_L_211 rfl (cal_X10_most _) (vir_X10_most _) (Nat.le_of_ble_eq_true rfl) (Nat.le_of_ble_eq_true rfl) rfl rfl rfl (Nat.le_of_ble_eq_true rfl) dL_isBook_3 (fun _ e => m_X10_most 40 p2 (0 : Int32) (0 : Int32) h _ e) (fun r1 => ?_)
  refine Y.op (pc' := 7) (loc' := [some (.ref p1), some (.ref p2), some (.int r1.1), none, none, none, none, none, none, none, none, none, none, none, none, none, none, none, none]) (fun _ => X.istoren (Nat.le_of_ble_eq_true rfl) rfl dL_isBook_6) ?_
  refine Y.op (pc' := 8) (fun _ => X.aloadn rfl dL_isBook_7) ?_
  refine Y.callVn (As := []) lk_L_214 rfl cal_X10_reached vir_X10_reached (Nat.le_of_ble_eq_true rfl) (Nat.le_of_ble_eq_true rfl) rfl rfl rfl (Nat.le_of_ble_eq_true rfl) dL_isBook_8 (fun _ e => m_X10_reached p2 r1.2 _ e) (fun r2 => ?_)
  refine Y.un (fun b3 => ?_)
  refine Y.op (pc' := 12) (loc' := [some (.ref p1), some (.ref p2), some (.int r1.1), some (.ref b3), none, none, none, none, none, none, none, none, none, none, none, none, none, none, none]) (fun _ => X.astoren (Nat.le_of_ble_eq_true rfl) rfl dL_isBook_11) ?_
  refine Y.op (pc' := 13) (fun _ => X.ic ki_0 dL_isBook_12) ?_
  refine Y.op (pc' := 15) (loc' := [some (.ref p1), some (.ref p2), some (.int r1.1), some (.ref b3), some (.int (0 : Int32)), none, none, none, none, none, none, none, none, none, none, none, none, none, none]) (fun _ => X.istore (Nat.le_of_ble_eq_true rfl) rfl dL_isBook_13) ?_
  refine Y.op (pc' := 16) (fun _ => X.ic ki_0 dL_isBook_15) ?_
  refine Y.op (pc' := 18) (loc' := [some (.ref p1), some (.ref p2), some (.int r1.1), some (.ref b3), some (.int (0 : Int32)), some (.int (0 : Int32)), none, none, none, none, none, none, none, none, none, none, none, none, none]) (fun _ => X.istore (Nat.le_of_ble_eq_true rfl) rfl dL_isBook_16) ?_
  refine Y.op (pc' := 19) (fun _ => X.ic ki_0 dL_isBook_18) ?_
  refine Y.op (pc' := 21) (loc' := [some (.ref p1), some (.ref p2), some (.int r1.1), some (.ref b3), some (.int (0 : Int32)), some (.int (0 : Int32)), some (.int (0 : Int32)), none, none, none, none, none, none, none, none, none, none, none, none]) (fun _ => X.istore (Nat.le_of_ble_eq_true rfl) rfl dL_isBook_19) ?_
  refine Y.op (pc' := 22) (fun _ => X.ic ki_0 dL_isBook_21) ?_
  refine Y.op (pc' := 24) (loc' := [some (.ref p1), some (.ref p2), some (.int r1.1), some (.ref b3), some (.int (0 : Int32)), some (.int (0 : Int32)), some (.int (0 : Int32)), some (.int (0 : Int32)), none, none, none, none, none, none, none, none, none, none, none]) (fun _ => X.istore (Nat.le_of_ble_eq_true rfl) rfl dL_isBook_22) ?_
  refine Y.op (pc' := 25) (fun _ => X.ic ki_4 dL_isBook_24) ?_
  refine Y.newI waI dL_isBook_25 (fun r4 => ?_)
  refine Y.op (pc' := 29) (loc' := [some (.ref p1), some (.ref p2), some (.int r1.1), some (.ref b3), some (.int (0 : Int32)), some (.int (0 : Int32)), some (.int (0 : Int32)), some (.int (0 : Int32)), some (.ref r4.1), none, none, none, none, none, none, none, none, none, none]) (fun _ => X.astore (Nat.le_of_ble_eq_true rfl) rfl dL_isBook_27) ?_
  refine Y.op (pc' := 30) (fun _ => X.ic ki_0 dL_isBook_29) ?_
  refine Y.op (pc' := 32) (loc' := [some (.ref p1), some (.ref p2), some (.int r1.1), some (.ref b3), some (.int (0 : Int32)), some (.int (0 : Int32)), some (.int (0 : Int32)), some (.int (0 : Int32)), some (.ref r4.1), some (.int (0 : Int32)), none, none, none, none, none, none, none, none, none]) (fun _ => X.istore (Nat.le_of_ble_eq_true rfl) rfl dL_isBook_30) ?_
  exact y_L_isBook_L32 (y_L_isBook_J173) (y_L_isBook_J305) (y_L_isBook_J340) (y_L_isBook_J489) (y_L_isBook_J518) (y_L_isBook_J526) 5000 p1 p2 r1.1 b3 (0 : Int32) (0 : Int32) (0 : Int32) (0 : Int32) r4.1 (0 : Int32) r4.2
theorem m_L_isBook {g : xG} (p1 : Nat) (p2 : Nat) (h : xH) (r : Int32 × xH) (e : f_L_isBook p1 p2 h = some r) : XM g DL_isBook [.ref p1, .ref p2] h false (iI r) := YM.of rfl rfl (Nat.le_of_ble_eq_true rfl) (y_L_isBook p1 p2 h) e
