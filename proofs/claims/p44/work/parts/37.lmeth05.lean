def f_L_law_J1424 (S : List Int32) (s0 : Int32) (h : xH) : Option (Int32 × xH) :=
  if s0 = 0 ∨ s0 = 1 then some (s0, h) else none
theorem y_L_law_J1424 {g : xG} {h0 : xH} (s0 : Int32) (h : xH) : Y g DL_law h0 false iI (f_L_law_J1424 (gX g) s0 h) 1424 [none, none, none, none, none, none, none, none, none, none, none, none, none, none, none, none, none, none, none] [.int s0] h := by
  unfold f_L_law_J1424
  exact Y.zreturn rfl dL_law_1424
def f_L_law_J1423 (S : List Int32) (h : xH) : Option (Int32 × xH) :=
  f_L_law_J1424 S (0 : Int32) h
theorem y_L_law_J1423 {g : xG} {h0 : xH} (h : xH) : Y g DL_law h0 false iI (f_L_law_J1423 (gX g) h) 1423 [none, none, none, none, none, none, none, none, none, none, none, none, none, none, none, none, none, none, none] [] h := by
  unfold f_L_law_J1423
  refine Y.op (pc' := 1424) (fun _ => X.ic ki_0 dL_law_1423) ?_
  exact y_L_law_J1424 (0 : Int32) h
def f_L_law_J1110 (S : List Int32) (x1 : Nat) (x3 : Nat) (x6 : Int32) (h : xH) : Option (Int32 × xH) :=
  if x6 = (0 : Int32) then
    f_L_law_J1423 S h
  else
    (f_L_told x1 (12 : Int32) h).bind fun r1 =>
    if r1.1 = (-2000000098 : Int32) then
      (f_L_text x1 (1 : Int32) r1.2).bind fun r2 =>
      if r2.1 = (-2000000098 : Int32) then
        (f_L_partner x1 (2 : Int32) (0 : Int32) r2.2).bind fun r3 =>
        if r3.1 = (-2000000096 : Int32) then
          (gI r3.2 10 x3 0).bind fun v4 =>
          (f_L_partner x1 (0 : Int32) v4 r3.2).bind fun r5 =>
          if r5.1 = (-2000000096 : Int32) then
            (gI r5.2 10 x3 1).bind fun v6 =>
            (f_L_cost x1 (0 : Int32) v6 r5.2).bind fun r7 =>
            if r7.1 = (-2000000096 : Int32) then
              (f_L_wayFrom x1 (0 : Int32) (2 : Int32) r7.2).bind fun r8 =>
              if r8.1 = (-2000000098 : Int32) then
                (f_L_phases x1 (4 : Int32) r8.2).bind fun r9 =>
                if r9.1 = (-2000000098 : Int32) then
                  (f_L_phased x1 (-1 : Int32) r9.2).bind fun r10 =>
                  if r10.1 = (-2000000096 : Int32) then
                    (f_L_reached x1 (2 : Int32) r10.2).bind fun r11 =>
                    if r11.1 = (-2000000096 : Int32) then
                      (f_L_cover x1 (-1 : Int32) r11.2).bind fun r12 =>
                      if r12.1 = (-2000000096 : Int32) then
                        (f_L_of x1 (0 : Int32) (0 : Int32) (3 : Int32) r12.2).bind fun r13 =>
                        if r13.1 = (-2000000098 : Int32) then
                          (f_L_fitMany x1 (0 : Int32) r13.2).bind fun r14 =>
                          if r14.1 = (-2000000098 : Int32) then
                            (f_L_lack x1 (-1 : Int32) r14.2).bind fun r15 =>
                            if r15.1 = (-2000000098 : Int32) then
                              (gI r15.2 10 x3 0).bind fun v16 =>
                              (f_L_lack x1 ((1 : Int32) <<< (v16 &&& 31)) r15.2).bind fun r17 =>
                              if r17.1 = (-2000000098 : Int32) then
                                (f_L_hall x1 (2 : Int32) r17.2).bind fun r18 =>
                                if r18.1 = (-2000000098 : Int32) then
                                  (f_L_cheap x1 (2 : Int32) r18.2).bind fun r19 =>
                                  if r19.1 = (-2000000098 : Int32) then
                                    (f_L_more x1 (2 : Int32) r19.2).bind fun r20 =>
                                    if r20.1 = (-2000000098 : Int32) then
                                      (f_L_fewest x1 (2 : Int32) r20.2).bind fun r21 =>
                                      if r21.1 = (-2000000098 : Int32) then
                                        (f_L_add x1 (0 : Int32) (0 : Int32) (100 : Int32) r21.2).bind fun r22 =>
                                        if r22.1 = (-2000000098 : Int32) then
                                          (f_L_is x1 (0 : Int32) (0 : Int32) (2 : Int32) r22.2).bind fun r23 =>
                                          if r23.1 = (-2000000098 : Int32) then
                                            (f_L_keep x1 (2 : Int32) r23.2).bind fun r24 =>
                                            if r24.1 = (-2000000098 : Int32) then
                                              (f_L_settle x1 (0 : Int32) r24.2).bind fun r25 =>
                                              if r25.1 = (-2000000098 : Int32) then
                                                (f_L_settle x1 (13 : Int32) r25.2).bind fun r26 =>
                                                if r26.1 = (-2000000098 : Int32) then
                                                  (f_L_chosen x1 (2 : Int32) r26.2).bind fun r27 =>
                                                  if r27.1 = (-2000000098 : Int32) then
                                                    (f_L_weight x1 (0 : Int32) (100 : Int32) r27.2).bind fun r28 =>
                                                    if r28.1 = (-2000000098 : Int32) then
                                                      (gI r28.2 10 x3 0).bind fun v29 =>
                                                      (f_L_weight x1 v29 (0 : Int32) r28.2).bind fun r30 =>
                                                      if r30.1 = (-2000000096 : Int32) then
                                                        (gI r30.2 10 x3 1).bind fun v31 =>
                                                        (f_L_round x1 (0 : Int32) v31 r30.2).bind fun r32 =>
                                                        if r32.1 = (-2000000096 : Int32) then
                                                          f_L_law_J1424 S (1 : Int32) r32.2
                                                        else
                                                          f_L_law_J1423 S r32.2
                                                      else
                                                        f_L_law_J1423 S r30.2
                                                    else
                                                      f_L_law_J1423 S r28.2
                                                  else
                                                    f_L_law_J1423 S r27.2
                                                else
                                                  f_L_law_J1423 S r26.2
                                              else
                                                f_L_law_J1423 S r25.2
                                            else
                                              f_L_law_J1423 S r24.2
                                          else
                                            f_L_law_J1423 S r23.2
                                        else
                                          f_L_law_J1423 S r22.2
                                      else
                                        f_L_law_J1423 S r21.2
                                    else
                                      f_L_law_J1423 S r20.2
                                  else
                                    f_L_law_J1423 S r19.2
                                else
                                  f_L_law_J1423 S r18.2
                              else
                                f_L_law_J1423 S r17.2
                            else
                              f_L_law_J1423 S r15.2
                          else
                            f_L_law_J1423 S r14.2
                        else
                          f_L_law_J1423 S r13.2
                      else
                        f_L_law_J1423 S r12.2
                    else
                      f_L_law_J1423 S r11.2
                  else
                    f_L_law_J1423 S r10.2
                else
                  f_L_law_J1423 S r9.2
              else
                f_L_law_J1423 S r8.2
            else
              f_L_law_J1423 S r7.2
          else
            f_L_law_J1423 S r5.2
        else
          f_L_law_J1423 S r3.2
      else
        f_L_law_J1423 S r2.2
    else
      f_L_law_J1423 S r1.2
theorem y_L_law_J1110 {g : xG} {h0 : xH} (x1 : Nat) (x3 : Nat) (x6 : Int32) (h : xH) : Y g DL_law h0 false iI (f_L_law_J1110 (gX g) x1 x3 x6 h) 1110 [none, some (.ref x1), none, some (.ref x3), none, none, some (.int x6), none, none, none, none, none, none, none, none, none, none, none, none] [] h := by
  unfold f_L_law_J1110
  refine Y.op (pc' := 1112) (fun _ => X.iload rfl dL_law_1110) ?_
  refine Y.ifeq 1423 (by decide) dL_law_1112 ?_ ?_
  · exact Y.fg (y_L_law_J1423 h) trivial
  · refine Y.op (pc' := 1116) (fun _ => X.aloadn rfl dL_law_1115) ?_
    refine Y.op (pc' := 1118) (fun _ => X.bp kb_12 dL_law_1116) ?_
    refine Y.callSWi (As := [.ref x1, .int (12 : Int32)]) lkw_L_told rfl calw_L_told staw_L_told (Nat.le_of_ble_eq_true rfl) rfl rfl (Nat.le_of_ble_eq_true rfl) dL_law_1118 (fun _ e => m_L_told x1 (12 : Int32) h _ e) (fun r1 => ?_)
    refine Y.op (pc' := 1123) (fun _ => X.ldcI wc_L_35 rfl dL_law_1121) ?_
    refine Y.cmpne 1423 (by decide) dL_law_1123 ?_ ?_
    · exact Y.fg (y_L_law_J1423 r1.2) trivial
    · refine Y.op (pc' := 1127) (fun _ => X.aloadn rfl dL_law_1126) ?_
      refine Y.op (pc' := 1128) (fun _ => X.ic ki_1 dL_law_1127) ?_
      refine Y.callSWi (As := [.ref x1, .int (1 : Int32)]) lkw_L_text rfl calw_L_text staw_L_text (Nat.le_of_ble_eq_true rfl) rfl rfl (Nat.le_of_ble_eq_true rfl) dL_law_1128 (fun _ e => m_L_text x1 (1 : Int32) r1.2 _ e) (fun r2 => ?_)
      refine Y.op (pc' := 1133) (fun _ => X.ldcI wc_L_35 rfl dL_law_1131) ?_
      refine Y.cmpne 1423 (by decide) dL_law_1133 ?_ ?_
      · exact Y.fg (y_L_law_J1423 r2.2) trivial
      · refine Y.op (pc' := 1137) (fun _ => X.aloadn rfl dL_law_1136) ?_
        refine Y.op (pc' := 1138) (fun _ => X.ic ki_2 dL_law_1137) ?_
        refine Y.op (pc' := 1139) (fun _ => X.ic ki_0 dL_law_1138) ?_
        refine Y.callSWi (As := [.ref x1, .int (2 : Int32), .int (0 : Int32)]) lkw_L_partner rfl calw_L_partner staw_L_partner (Nat.le_of_ble_eq_true rfl) rfl rfl (Nat.le_of_ble_eq_true rfl) dL_law_1139 (fun _ e => m_L_partner x1 (2 : Int32) (0 : Int32) r2.2 _ e) (fun r3 => ?_)
        refine Y.op (pc' := 1144) (fun _ => X.ldcI wc_L_45 rfl dL_law_1142) ?_
        refine Y.cmpne 1423 (by decide) dL_law_1144 ?_ ?_
        · exact Y.fg (y_L_law_J1423 r3.2) trivial
        · refine Y.op (pc' := 1148) (fun _ => X.aloadn rfl dL_law_1147) ?_
          refine Y.op (pc' := 1149) (fun _ => X.ic ki_0 dL_law_1148) ?_
          refine Y.op (pc' := 1150) (fun _ => X.aloadn rfl dL_law_1149) ?_
          refine Y.getI fd_L_138 rfl dL_law_1150 (fun v4 => ?_)
          refine Y.callSWi (As := [.ref x1, .int (0 : Int32), .int v4]) lkw_L_partner rfl calw_L_partner staw_L_partner (Nat.le_of_ble_eq_true rfl) rfl rfl (Nat.le_of_ble_eq_true rfl) dL_law_1153 (fun _ e => m_L_partner x1 (0 : Int32) v4 r3.2 _ e) (fun r5 => ?_)
          refine Y.op (pc' := 1158) (fun _ => X.ldcI wc_L_45 rfl dL_law_1156) ?_
          refine Y.cmpne 1423 (by decide) dL_law_1158 ?_ ?_
          · exact Y.fg (y_L_law_J1423 r5.2) trivial
          · refine Y.op (pc' := 1162) (fun _ => X.aloadn rfl dL_law_1161) ?_
            refine Y.op (pc' := 1163) (fun _ => X.ic ki_0 dL_law_1162) ?_
            refine Y.op (pc' := 1164) (fun _ => X.aloadn rfl dL_law_1163) ?_
            refine Y.getI fd_L_144 rfl dL_law_1164 (fun v6 => ?_)
            refine Y.callSWi (As := [.ref x1, .int (0 : Int32), .int v6]) lkw_L_cost rfl calw_L_cost staw_L_cost (Nat.le_of_ble_eq_true rfl) rfl rfl (Nat.le_of_ble_eq_true rfl) dL_law_1167 (fun _ e => m_L_cost x1 (0 : Int32) v6 r5.2 _ e) (fun r7 => ?_)
            refine Y.op (pc' := 1172) (fun _ => X.ldcI wc_L_45 rfl dL_law_1170) ?_
            refine Y.cmpne 1423 (by decide) dL_law_1172 ?_ ?_
            · exact Y.fg (y_L_law_J1423 r7.2) trivial
            · refine Y.op (pc' := 1176) (fun _ => X.aloadn rfl dL_law_1175) ?_
              refine Y.op (pc' := 1177) (fun _ => X.ic ki_0 dL_law_1176) ?_
              refine Y.op (pc' := 1178) (fun _ => X.ic ki_2 dL_law_1177) ?_
              refine Y.callSWi (As := [.ref x1, .int (0 : Int32), .int (2 : Int32)]) lkw_L_wayFrom rfl calw_L_wayFrom staw_L_wayFrom (Nat.le_of_ble_eq_true rfl) rfl rfl (Nat.le_of_ble_eq_true rfl) dL_law_1178 (fun _ e => m_L_wayFrom x1 (0 : Int32) (2 : Int32) r7.2 _ e) (fun r8 => ?_)
              refine Y.op (pc' := 1183) (fun _ => X.ldcI wc_L_35 rfl dL_law_1181) ?_
              refine Y.cmpne 1423 (by decide) dL_law_1183 ?_ ?_
              · exact Y.fg (y_L_law_J1423 r8.2) trivial
              · refine Y.op (pc' := 1187) (fun _ => X.aloadn rfl dL_law_1186) ?_
                refine Y.op (pc' := 1188) (fun _ => X.ic ki_4 dL_law_1187) ?_
                refine Y.callSWi (As := [.ref x1, .int (4 : Int32)]) lkw_L_phases rfl calw_L_phases staw_L_phases (Nat.le_of_ble_eq_true rfl) rfl rfl (Nat.le_of_ble_eq_true rfl) dL_law_1188 (fun _ e => m_L_phases x1 (4 : Int32) r8.2 _ e) (fun r9 => ?_)
                refine Y.op (pc' := 1193) (fun _ => X.ldcI wc_L_35 rfl dL_law_1191) ?_
                refine Y.cmpne 1423 (by decide) dL_law_1193 ?_ ?_
                · exact Y.fg (y_L_law_J1423 r9.2) trivial
                · refine Y.op (pc' := 1197) (fun _ => X.aloadn rfl dL_law_1196) ?_
                  refine Y.op (pc' := 1198) (fun _ => X.ic ki_m1 dL_law_1197) ?_
                  refine Y.callSWi (As := [.ref x1, .int (-1 : Int32)]) lkw_L_phased rfl calw_L_phased staw_L_phased (Nat.le_of_ble_eq_true rfl) rfl rfl (Nat.le_of_ble_eq_true rfl) dL_law_1198 (fun _ e => m_L_phased x1 (-1 : Int32) r9.2 _ e) (fun r10 => ?_)
                  refine Y.op (pc' := 1203) (fun _ => X.ldcI wc_L_45 rfl dL_law_1201) ?_
                  refine Y.cmpne 1423 (by decide) dL_law_1203 ?_ ?_
                  · exact Y.fg (y_L_law_J1423 r10.2) trivial
                  · refine Y.op (pc' := 1207) (fun _ => X.aloadn rfl dL_law_1206) ?_
                    refine Y.op (pc' := 1208) (fun _ => X.ic ki_2 dL_law_1207) ?_
                    refine Y.callSWi (As := [.ref x1, .int (2 : Int32)]) lkw_L_reached rfl calw_L_reached staw_L_reached (Nat.le_of_ble_eq_true rfl) rfl rfl (Nat.le_of_ble_eq_true rfl) dL_law_1208 (fun _ e => m_L_reached x1 (2 : Int32) r10.2 _ e) (fun r11 => ?_)
                    refine Y.op (pc' := 1213) (fun _ => X.ldcI wc_L_45 rfl dL_law_1211) ?_
                    refine Y.cmpne 1423 (by decide) dL_law_1213 ?_ ?_
                    · exact Y.fg (y_L_law_J1423 r11.2) trivial
                    · refine Y.op (pc' := 1217) (fun _ => X.aloadn rfl dL_law_1216) ?_
                      refine Y.op (pc' := 1218) (fun _ => X.ic ki_m1 dL_law_1217) ?_
                      refine Y.callSWi (As := [.ref x1, .int (-1 : Int32)]) lkw_L_cover rfl calw_L_cover staw_L_cover (Nat.le_of_ble_eq_true rfl) rfl rfl (Nat.le_of_ble_eq_true rfl) dL_law_1218 (fun _ e => m_L_cover x1 (-1 : Int32) r11.2 _ e) (fun r12 => ?_)
                      refine Y.op (pc' := 1223) (fun _ => X.ldcI wc_L_45 rfl dL_law_1221) ?_
                      refine Y.cmpne 1423 (by decide) dL_law_1223 ?_ ?_
                      · exact Y.fg (y_L_law_J1423 r12.2) trivial
                      · refine Y.op (pc' := 1227) (fun _ => X.aloadn rfl dL_law_1226) ?_
                        refine Y.op (pc' := 1228) (fun _ => X.ic ki_0 dL_law_1227) ?_
                        refine Y.op (pc' := 1229) (fun _ => X.ic ki_0 dL_law_1228) ?_
                        refine Y.op (pc' := 1230) (fun _ => X.ic ki_3 dL_law_1229) ?_
                        refine Y.callSWi (As := [.ref x1, .int (0 : Int32), .int (0 : Int32), .int (3 : Int32)]) lkw_L_of rfl calw_L_of staw_L_of (Nat.le_of_ble_eq_true rfl) rfl rfl (Nat.le_of_ble_eq_true rfl) dL_law_1230 (fun _ e => m_L_of x1 (0 : Int32) (0 : Int32) (3 : Int32) r12.2 _ e) (fun r13 => ?_)
                        refine Y.op (pc' := 1235) (fun _ => X.ldcI wc_L_35 rfl dL_law_1233) ?_
                        refine Y.cmpne 1423 (by decide) dL_law_1235 ?_ ?_
                        · exact Y.fg (y_L_law_J1423 r13.2) trivial
                        · refine Y.op (pc' := 1239) (fun _ => X.aloadn rfl dL_law_1238) ?_
                          refine Y.op (pc' := 1240) (fun _ => X.ic ki_0 dL_law_1239) ?_
                          refine Y.callSWi (As := [.ref x1, .int (0 : Int32)]) lkw_L_fitMany rfl calw_L_fitMany staw_L_fitMany (Nat.le_of_ble_eq_true rfl) rfl rfl (Nat.le_of_ble_eq_true rfl) dL_law_1240 (fun _ e => m_L_fitMany x1 (0 : Int32) r13.2 _ e) (fun r14 => ?_)
                          refine Y.op (pc' := 1245) (fun _ => X.ldcI wc_L_35 rfl dL_law_1243) ?_
                          refine Y.cmpne 1423 (by decide) dL_law_1245 ?_ ?_
                          · exact Y.fg (y_L_law_J1423 r14.2) trivial
                          · refine Y.op (pc' := 1249) (fun _ => X.aloadn rfl dL_law_1248) ?_
                            refine Y.op (pc' := 1250) (fun _ => X.ic ki_m1 dL_law_1249) ?_
                            refine Y.callSWi (As := [.ref x1, .int (-1 : Int32)]) lkw_L_lack rfl calw_L_lack staw_L_lack (Nat.le_of_ble_eq_true rfl) rfl rfl (Nat.le_of_ble_eq_true rfl) dL_law_1250 (fun _ e => m_L_lack x1 (-1 : Int32) r14.2 _ e) (fun r15 => ?_)
                            refine Y.op (pc' := 1255) (fun _ => X.ldcI wc_L_35 rfl dL_law_1253) ?_
                            refine Y.cmpne 1423 (by decide) dL_law_1255 ?_ ?_
                            · exact Y.fg (y_L_law_J1423 r15.2) trivial
                            · refine Y.op (pc' := 1259) (fun _ => X.aloadn rfl dL_law_1258) ?_
                              refine Y.op (pc' := 1260) (fun _ => X.ic ki_1 dL_law_1259) ?_
                              refine Y.op (pc' := 1261) (fun _ => X.aloadn rfl dL_law_1260) ?_
                              refine Y.getI fd_L_138 rfl dL_law_1261 (fun v16 => ?_)
                              refine Y.op (pc' := 1265) (fun _ => X.ishl dL_law_1264) ?_
                              refine Y.callSWi (As := [.ref x1, .int ((1 : Int32) <<< (v16 &&& 31))]) lkw_L_lack rfl calw_L_lack staw_L_lack (Nat.le_of_ble_eq_true rfl) rfl rfl (Nat.le_of_ble_eq_true rfl) dL_law_1265 (fun _ e => m_L_lack x1 ((1 : Int32) <<< (v16 &&& 31)) r15.2 _ e) (fun r17 => ?_)
                              refine Y.op (pc' := 1270) (fun _ => X.ldcI wc_L_35 rfl dL_law_1268) ?_
                              refine Y.cmpne 1423 (by decide) dL_law_1270 ?_ ?_
                              · exact Y.fg (y_L_law_J1423 r17.2) trivial
                              · refine Y.op (pc' := 1274) (fun _ => X.aloadn rfl dL_law_1273) ?_
                                refine Y.op (pc' := 1275) (fun _ => X.ic ki_2 dL_law_1274) ?_
                                refine Y.callSWi (As := [.ref x1, .int (2 : Int32)]) lkw_L_hall rfl calw_L_hall staw_L_hall (Nat.le_of_ble_eq_true rfl) rfl rfl (Nat.le_of_ble_eq_true rfl) dL_law_1275 (fun _ e => m_L_hall x1 (2 : Int32) r17.2 _ e) (fun r18 => ?_)
                                refine Y.op (pc' := 1280) (fun _ => X.ldcI wc_L_35 rfl dL_law_1278) ?_
                                refine Y.cmpne 1423 (by decide) dL_law_1280 ?_ ?_
                                · exact Y.fg (y_L_law_J1423 r18.2) trivial
                                · refine Y.op (pc' := 1284) (fun _ => X.aloadn rfl dL_law_1283) ?_
                                  refine Y.op (pc' := 1285) (fun _ => X.ic ki_2 dL_law_1284) ?_
                                  refine Y.callSWi (As := [.ref x1, .int (2 : Int32)]) lkw_L_cheap rfl calw_L_cheap staw_L_cheap (Nat.le_of_ble_eq_true rfl) rfl rfl (Nat.le_of_ble_eq_true rfl) dL_law_1285 (fun _ e => m_L_cheap x1 (2 : Int32) r18.2 _ e) (fun r19 => ?_)
                                  refine Y.op (pc' := 1290) (fun _ => X.ldcI wc_L_35 rfl dL_law_1288) ?_
                                  refine Y.cmpne 1423 (by decide) dL_law_1290 ?_ ?_
                                  · exact Y.fg (y_L_law_J1423 r19.2) trivial
                                  · refine Y.op (pc' := 1294) (fun _ => X.aloadn rfl dL_law_1293) ?_
                                    refine Y.op (pc' := 1295) (fun _ => X.ic ki_2 dL_law_1294) ?_
                                    refine Y.callSWi (As := [.ref x1, .int (2 : Int32)]) lkw_L_more rfl calw_L_more staw_L_more (Nat.le_of_ble_eq_true rfl) rfl rfl (Nat.le_of_ble_eq_true rfl) dL_law_1295 (fun _ e => m_L_more x1 (2 : Int32) r19.2 _ e) (fun r20 => ?_)
                                    refine Y.op (pc' := 1300) (fun _ => X.ldcI wc_L_35 rfl dL_law_1298) ?_
                                    refine Y.cmpne 1423 (by decide) dL_law_1300 ?_ ?_
                                    · exact Y.fg (y_L_law_J1423 r20.2) trivial
                                    · refine Y.op (pc' := 1304) (fun _ => X.aloadn rfl dL_law_1303) ?_
                                      refine Y.op (pc' := 1305) (fun _ => X.ic ki_2 dL_law_1304) ?_
                                      refine Y.callSWi (As := [.ref x1, .int (2 : Int32)]) lkw_L_fewest rfl calw_L_fewest staw_L_fewest (Nat.le_of_ble_eq_true rfl) rfl rfl (Nat.le_of_ble_eq_true rfl) dL_law_1305 (fun _ e => m_L_fewest x1 (2 : Int32) r20.2 _ e) (fun r21 => ?_)
                                      refine Y.op (pc' := 1310) (fun _ => X.ldcI wc_L_35 rfl dL_law_1308) ?_
                                      refine Y.cmpne 1423 (by decide) dL_law_1310 ?_ ?_
                                      · exact Y.fg (y_L_law_J1423 r21.2) trivial
                                      · refine Y.op (pc' := 1314) (fun _ => X.aloadn rfl dL_law_1313) ?_
                                        refine Y.op (pc' := 1315) (fun _ => X.ic ki_0 dL_law_1314) ?_
                                        refine Y.op (pc' := 1316) (fun _ => X.ic ki_0 dL_law_1315) ?_
                                        refine Y.op (pc' := 1318) (fun _ => X.bp kb_100 dL_law_1316) ?_
                                        refine Y.callSWi (As := [.ref x1, .int (0 : Int32), .int (0 : Int32), .int (100 : Int32)]) lkw_L_add rfl calw_L_add staw_L_add (Nat.le_of_ble_eq_true rfl) rfl rfl (Nat.le_of_ble_eq_true rfl) dL_law_1318 (fun _ e => m_L_add x1 (0 : Int32) (0 : Int32) (100 : Int32) r21.2 _ e) (fun r22 => ?_)
                                        refine Y.op (pc' := 1323) (fun _ => X.ldcI wc_L_35 rfl dL_law_1321) ?_
                                        refine Y.cmpne 1423 (by decide) dL_law_1323 ?_ ?_
                                        · exact Y.fg (y_L_law_J1423 r22.2) trivial
                                        · refine Y.op (pc' := 1327) (fun _ => X.aloadn rfl dL_law_1326) ?_
                                          refine Y.op (pc' := 1328) (fun _ => X.ic ki_0 dL_law_1327) ?_
                                          refine Y.op (pc' := 1329) (fun _ => X.ic ki_0 dL_law_1328) ?_
                                          refine Y.op (pc' := 1330) (fun _ => X.ic ki_2 dL_law_1329) ?_
                                          refine Y.callSWi (As := [.ref x1, .int (0 : Int32), .int (0 : Int32), .int (2 : Int32)]) lkw_L_is rfl calw_L_is staw_L_is (Nat.le_of_ble_eq_true rfl) rfl rfl (Nat.le_of_ble_eq_true rfl) dL_law_1330 (fun _ e => m_L_is x1 (0 : Int32) (0 : Int32) (2 : Int32) r22.2 _ e) (fun r23 => ?_)
                                          refine Y.op (pc' := 1335) (fun _ => X.ldcI wc_L_35 rfl dL_law_1333) ?_
                                          refine Y.cmpne 1423 (by decide) dL_law_1335 ?_ ?_
                                          · exact Y.fg (y_L_law_J1423 r23.2) trivial
                                          · refine Y.op (pc' := 1339) (fun _ => X.aloadn rfl dL_law_1338) ?_
                                            refine Y.op (pc' := 1340) (fun _ => X.ic ki_2 dL_law_1339) ?_
                                            refine Y.callSWi (As := [.ref x1, .int (2 : Int32)]) lkw_L_keep rfl calw_L_keep staw_L_keep (Nat.le_of_ble_eq_true rfl) rfl rfl (Nat.le_of_ble_eq_true rfl) dL_law_1340 (fun _ e => m_L_keep x1 (2 : Int32) r23.2 _ e) (fun r24 => ?_)
                                            refine Y.op (pc' := 1345) (fun _ => X.ldcI wc_L_35 rfl dL_law_1343) ?_
                                            refine Y.cmpne 1423 (by decide) dL_law_1345 ?_ ?_
                                            · exact Y.fg (y_L_law_J1423 r24.2) trivial
                                            · refine Y.op (pc' := 1349) (fun _ => X.aloadn rfl dL_law_1348) ?_
                                              refine Y.op (pc' := 1350) (fun _ => X.ic ki_0 dL_law_1349) ?_
                                              refine Y.callSWi (As := [.ref x1, .int (0 : Int32)]) lkw_L_settle rfl calw_L_settle staw_L_settle (Nat.le_of_ble_eq_true rfl) rfl rfl (Nat.le_of_ble_eq_true rfl) dL_law_1350 (fun _ e => m_L_settle x1 (0 : Int32) r24.2 _ e) (fun r25 => ?_)
                                              refine Y.op (pc' := 1355) (fun _ => X.ldcI wc_L_35 rfl dL_law_1353) ?_
                                              refine Y.cmpne 1423 (by decide) dL_law_1355 ?_ ?_
                                              · exact Y.fg (y_L_law_J1423 r25.2) trivial
                                              · refine Y.op (pc' := 1359) (fun _ => X.aloadn rfl dL_law_1358) ?_
                                                refine Y.op (pc' := 1361) (fun _ => X.bp kb_13 dL_law_1359) ?_
                                                refine Y.callSWi (As := [.ref x1, .int (13 : Int32)]) lkw_L_settle rfl calw_L_settle staw_L_settle (Nat.le_of_ble_eq_true rfl) rfl rfl (Nat.le_of_ble_eq_true rfl) dL_law_1361 (fun _ e => m_L_settle x1 (13 : Int32) r25.2 _ e) (fun r26 => ?_)
                                                refine Y.op (pc' := 1366) (fun _ => X.ldcI wc_L_35 rfl dL_law_1364) ?_
                                                refine Y.cmpne 1423 (by decide) dL_law_1366 ?_ ?_
                                                · exact Y.fg (y_L_law_J1423 r26.2) trivial
                                                · refine Y.op (pc' := 1370) (fun _ => X.aloadn rfl dL_law_1369) ?_
                                                  refine Y.op (pc' := 1371) (fun _ => X.ic ki_2 dL_law_1370) ?_
                                                  refine Y.callSWi (As := [.ref x1, .int (2 : Int32)]) lkw_L_chosen rfl calw_L_chosen staw_L_chosen (Nat.le_of_ble_eq_true rfl) rfl rfl (Nat.le_of_ble_eq_true rfl) dL_law_1371 (fun _ e => m_L_chosen x1 (2 : Int32) r26.2 _ e) (fun r27 => ?_)
                                                  refine Y.op (pc' := 1376) (fun _ => X.ldcI wc_L_35 rfl dL_law_1374) ?_
                                                  refine Y.cmpne 1423 (by decide) dL_law_1376 ?_ ?_
                                                  · exact Y.fg (y_L_law_J1423 r27.2) trivial
                                                  · refine Y.op (pc' := 1380) (fun _ => X.aloadn rfl dL_law_1379) ?_
                                                    refine Y.op (pc' := 1381) (fun _ => X.ic ki_0 dL_law_1380) ?_
                                                    refine Y.op (pc' := 1383) (fun _ => X.bp kb_100 dL_law_1381) ?_
                                                    refine Y.callSWi (As := [.ref x1, .int (0 : Int32), .int (100 : Int32)]) lkw_L_weight rfl calw_L_weight staw_L_weight (Nat.le_of_ble_eq_true rfl) rfl rfl (Nat.le_of_ble_eq_true rfl) dL_law_1383 (fun _ e => m_L_weight x1 (0 : Int32) (100 : Int32) r27.2 _ e) (fun r28 => ?_)
                                                    refine Y.op (pc' := 1388) (fun _ => X.ldcI wc_L_35 rfl dL_law_1386) ?_
                                                    refine Y.cmpne 1423 (by decide) dL_law_1388 ?_ ?_
                                                    · exact Y.fg (y_L_law_J1423 r28.2) trivial
                                                    · refine Y.op (pc' := 1392) (fun _ => X.aloadn rfl dL_law_1391) ?_
                                                      refine Y.op (pc' := 1393) (fun _ => X.aloadn rfl dL_law_1392) ?_
                                                      refine Y.getI fd_L_138 rfl dL_law_1393 (fun v29 => ?_)
                                                      refine Y.op (pc' := 1397) (fun _ => X.ic ki_0 dL_law_1396) ?_
                                                      refine Y.callSWi (As := [.ref x1, .int v29, .int (0 : Int32)]) lkw_L_weight rfl calw_L_weight staw_L_weight (Nat.le_of_ble_eq_true rfl) rfl rfl (Nat.le_of_ble_eq_true rfl) dL_law_1397 (fun _ e => m_L_weight x1 v29 (0 : Int32) r28.2 _ e) (fun r30 => ?_)
                                                      refine Y.op (pc' := 1402) (fun _ => X.ldcI wc_L_45 rfl dL_law_1400) ?_
                                                      refine Y.cmpne 1423 (by decide) dL_law_1402 ?_ ?_
                                                      · exact Y.fg (y_L_law_J1423 r30.2) trivial
                                                      · refine Y.op (pc' := 1406) (fun _ => X.aloadn rfl dL_law_1405) ?_
                                                        refine Y.op (pc' := 1407) (fun _ => X.ic ki_0 dL_law_1406) ?_
                                                        refine Y.op (pc' := 1408) (fun _ => X.aloadn rfl dL_law_1407) ?_
                                                        refine Y.getI fd_L_144 rfl dL_law_1408 (fun v31 => ?_)
                                                        refine Y.callSWi (As := [.ref x1, .int (0 : Int32), .int v31]) lkw_L_round rfl calw_L_round staw_L_round (Nat.le_of_ble_eq_true rfl) rfl rfl (Nat.le_of_ble_eq_true rfl) dL_law_1411 (fun _ e => m_L_round x1 (0 : Int32) v31 r30.2 _ e) (fun r32 => ?_)
                                                        refine Y.op (pc' := 1416) (fun _ => X.ldcI wc_L_45 rfl dL_law_1414) ?_
                                                        refine Y.cmpne 1423 (by decide) dL_law_1416 ?_ ?_
                                                        · exact Y.fg (y_L_law_J1423 r32.2) trivial
                                                        · refine Y.op (pc' := 1420) (fun _ => X.ic ki_1 dL_law_1419) ?_
                                                          refine Y.op (pc' := 1424) (fun _ => X.goto 1424 (by decide) dL_law_1420) ?_
                                                          exact Y.fg (y_L_law_J1424 (1 : Int32) r32.2) trivial
def f_L_law_J1102 (S : List Int32) (kH : Nat → Nat → Nat → Nat → Int32 → Int32 → Int32 → xH → Option (Int32 × xH)) (kE1110 : Nat → Nat → Int32 → xH → Option (Int32 × xH)) (x1 : Nat) (x2 : Nat) (x3 : Nat) (x4 : Nat) (x5 : Int32) (x7 : Int32) (s0 : Int32) (h : xH) : Option (Int32 × xH) :=
  lt (x7 + (1 : Int32)) fun v1 =>
  kH x1 x2 x3 x4 x5 s0 v1 h
theorem y_L_law_J1102 {g : xG} {h0 : xH} {kH : Nat → Nat → Nat → Nat → Int32 → Int32 → Int32 → xH → Option (Int32 × xH)} {kE1110 : Nat → Nat → Int32 → xH → Option (Int32 × xH)} (hkH : ∀ (x1 : Nat) (x2 : Nat) (x3 : Nat) (x4 : Nat) (x5 : Int32) (x6 : Int32) (x7 : Int32) (h : xH), Y g DL_law h0 false iI (kH x1 x2 x3 x4 x5 x6 x7 h) 37 [some (.ref 1000000), some (.ref x1), some (.ref x2), some (.ref x3), some (.ref x4), some (.int x5), some (.int x6), some (.int x7), none, none, none, none, none, none, none, none, none, none, none] [] h) (hkE1110 : ∀ (x1 : Nat) (x3 : Nat) (x6 : Int32) (h : xH), Y g DL_law h0 false iI (kE1110 x1 x3 x6 h) 1110 [none, some (.ref x1), none, some (.ref x3), none, none, some (.int x6), none, none, none, none, none, none, none, none, none, none, none, none] [] h) (x1 : Nat) (x2 : Nat) (x3 : Nat) (x4 : Nat) (x5 : Int32) (x7 : Int32) (s0 : Int32) (h : xH) : Y g DL_law h0 false iI (f_L_law_J1102 (gX g) kH kE1110 x1 x2 x3 x4 x5 x7 s0 h) 1102 [some (.ref 1000000), some (.ref x1), some (.ref x2), some (.ref x3), some (.ref x4), some (.int x5), none, some (.int x7), none, none, none, none, none, none, none, none, none, none, none] [.int s0] h := by
  unfold f_L_law_J1102
  refine Y.op (pc' := 1104) (loc' := [some (.ref 1000000), some (.ref x1), some (.ref x2), some (.ref x3), some (.ref x4), some (.int x5), some (.int s0), some (.int x7), none, none, none, none, none, none, none, none, none, none, none]) (fun _ => X.istore (Nat.le_of_ble_eq_true rfl) rfl dL_law_1102) ?_
  refine Y.iinc (i := 7) (loc' := fun v1 => [some (.ref 1000000), some (.ref x1), some (.ref x2), some (.ref x3), some (.ref x4), some (.int x5), some (.int s0), some (.int v1), none, none, none, none, none, none, none, none, none, none, none]) rfl (Nat.le_of_ble_eq_true rfl) ki_1 (fun _ => rfl) dL_law_1104 (fun v1 => ?_)
  refine Y.op (pc' := 37) (fun _ => X.goto 37 (by decide) dL_law_1107) ?_
  exact hkH x1 x2 x3 x4 x5 s0 v1 h
def f_L_law_J1101 (S : List Int32) (kH : Nat → Nat → Nat → Nat → Int32 → Int32 → Int32 → xH → Option (Int32 × xH)) (kE1110 : Nat → Nat → Int32 → xH → Option (Int32 × xH)) (x1 : Nat) (x2 : Nat) (x3 : Nat) (x4 : Nat) (x5 : Int32) (x7 : Int32) (h : xH) : Option (Int32 × xH) :=
  f_L_law_J1102 S (kH) kE1110 x1 x2 x3 x4 x5 x7 (0 : Int32) h
theorem y_L_law_J1101 {g : xG} {h0 : xH} {kH : Nat → Nat → Nat → Nat → Int32 → Int32 → Int32 → xH → Option (Int32 × xH)} {kE1110 : Nat → Nat → Int32 → xH → Option (Int32 × xH)} (hkH : ∀ (x1 : Nat) (x2 : Nat) (x3 : Nat) (x4 : Nat) (x5 : Int32) (x6 : Int32) (x7 : Int32) (h : xH), Y g DL_law h0 false iI (kH x1 x2 x3 x4 x5 x6 x7 h) 37 [some (.ref 1000000), some (.ref x1), some (.ref x2), some (.ref x3), some (.ref x4), some (.int x5), some (.int x6), some (.int x7), none, none, none, none, none, none, none, none, none, none, none] [] h) (hkE1110 : ∀ (x1 : Nat) (x3 : Nat) (x6 : Int32) (h : xH), Y g DL_law h0 false iI (kE1110 x1 x3 x6 h) 1110 [none, some (.ref x1), none, some (.ref x3), none, none, some (.int x6), none, none, none, none, none, none, none, none, none, none, none, none] [] h) (x1 : Nat) (x2 : Nat) (x3 : Nat) (x4 : Nat) (x5 : Int32) (x7 : Int32) (h : xH) : Y g DL_law h0 false iI (f_L_law_J1101 (gX g) kH kE1110 x1 x2 x3 x4 x5 x7 h) 1101 [some (.ref 1000000), some (.ref x1), some (.ref x2), some (.ref x3), some (.ref x4), some (.int x5), none, some (.int x7), none, none, none, none, none, none, none, none, none, none, none] [] h := by
  unfold f_L_law_J1101
  refine Y.op (pc' := 1102) (fun _ => X.ic ki_0 dL_law_1101) ?_
  exact y_L_law_J1102 hkH hkE1110 x1 x2 x3 x4 x5 x7 (0 : Int32) h
def f_L_law_J1065 (S : List Int32) (kH : Nat → Nat → Nat → Nat → Int32 → Int32 → Int32 → xH → Option (Int32 × xH)) (kE1110 : Nat → Nat → Int32 → xH → Option (Int32 × xH)) (x1 : Nat) (x2 : Nat) (x3 : Nat) (x4 : Nat) (x5 : Int32) (x6 : Int32) (x7 : Int32) (h : xH) : Option (Int32 × xH) :=
  if x6 = (0 : Int32) then
    f_L_law_J1101 S (kH) kE1110 x1 x2 x3 x4 x5 x7 h
  else
    (f_L_told x1 (10 : Int32) h).bind fun r1 =>
    if r1.1 = x5 then
      (f_L_isBook x1 x3 r1.2).bind fun r2 =>
      if r2.1 = (0 : Int32) then
        f_L_law_J1101 S (kH) kE1110 x1 x2 x3 x4 x5 x7 r2.2
      else
        (f_L_isChosen x1 x3 r2.2).bind fun r3 =>
        if r3.1 = (0 : Int32) then
          f_L_law_J1101 S (kH) kE1110 x1 x2 x3 x4 x5 x7 r3.2
        else
          f_L_law_J1102 S (kH) kE1110 x1 x2 x3 x4 x5 x7 (1 : Int32) r3.2
    else
      f_L_law_J1101 S (kH) kE1110 x1 x2 x3 x4 x5 x7 r1.2
theorem y_L_law_J1065 {g : xG} {h0 : xH} {kH : Nat → Nat → Nat → Nat → Int32 → Int32 → Int32 → xH → Option (Int32 × xH)} {kE1110 : Nat → Nat → Int32 → xH → Option (Int32 × xH)} (hkH : ∀ (x1 : Nat) (x2 : Nat) (x3 : Nat) (x4 : Nat) (x5 : Int32) (x6 : Int32) (x7 : Int32) (h : xH), Y g DL_law h0 false iI (kH x1 x2 x3 x4 x5 x6 x7 h) 37 [some (.ref 1000000), some (.ref x1), some (.ref x2), some (.ref x3), some (.ref x4), some (.int x5), some (.int x6), some (.int x7), none, none, none, none, none, none, none, none, none, none, none] [] h) (hkE1110 : ∀ (x1 : Nat) (x3 : Nat) (x6 : Int32) (h : xH), Y g DL_law h0 false iI (kE1110 x1 x3 x6 h) 1110 [none, some (.ref x1), none, some (.ref x3), none, none, some (.int x6), none, none, none, none, none, none, none, none, none, none, none, none] [] h) (x1 : Nat) (x2 : Nat) (x3 : Nat) (x4 : Nat) (x5 : Int32) (x6 : Int32) (x7 : Int32) (h : xH) : Y g DL_law h0 false iI (f_L_law_J1065 (gX g) kH kE1110 x1 x2 x3 x4 x5 x6 x7 h) 1065 [some (.ref 1000000), some (.ref x1), some (.ref x2), some (.ref x3), some (.ref x4), some (.int x5), some (.int x6), some (.int x7), none, none, none, none, none, none, none, none, none, none, none] [] h := by
  unfold f_L_law_J1065
  refine Y.op (pc' := 1067) (fun _ => X.iload rfl dL_law_1065) ?_
  refine Y.ifeq 1101 (by decide) dL_law_1067 ?_ ?_
  · exact Y.fg (y_L_law_J1101 hkH hkE1110 x1 x2 x3 x4 x5 x7 h) (And.intro rfl (And.intro rfl (And.intro rfl (And.intro rfl (And.intro rfl (And.intro rfl (And.intro rfl trivial)))))))
  · refine Y.op (pc' := 1071) (fun _ => X.aloadn rfl dL_law_1070) ?_
    refine Y.op (pc' := 1073) (fun _ => X.bp kb_10 dL_law_1071) ?_
    refine Y.callSWi (As := [.ref x1, .int (10 : Int32)]) lkw_L_told rfl calw_L_told staw_L_told (Nat.le_of_ble_eq_true rfl) rfl rfl (Nat.le_of_ble_eq_true rfl) dL_law_1073 (fun _ e => m_L_told x1 (10 : Int32) h _ e) (fun r1 => ?_)
    refine Y.op (pc' := 1078) (fun _ => X.iload rfl dL_law_1076) ?_
    refine Y.cmpne 1101 (by decide) dL_law_1078 ?_ ?_
    · exact Y.fg (y_L_law_J1101 hkH hkE1110 x1 x2 x3 x4 x5 x7 r1.2) (And.intro rfl (And.intro rfl (And.intro rfl (And.intro rfl (And.intro rfl (And.intro rfl (And.intro rfl trivial)))))))
    · refine Y.op (pc' := 1082) (fun _ => X.aloadn rfl dL_law_1081) ?_
      refine Y.op (pc' := 1083) (fun _ => X.aloadn rfl dL_law_1082) ?_
      refine Y.callSi (As := [.ref x1, .ref x3]) lk_L_318 rfl cal_L_isBook sta_L_isBook (Nat.le_of_ble_eq_true rfl) rfl rfl (Nat.le_of_ble_eq_true rfl) dL_law_1083 (fun _ e => m_L_isBook x1 x3 r1.2 _ e) (fun r2 => ?_)
      refine Y.ifeq 1101 (by decide) dL_law_1086 ?_ ?_
      · exact Y.fg (y_L_law_J1101 hkH hkE1110 x1 x2 x3 x4 x5 x7 r2.2) (And.intro rfl (And.intro rfl (And.intro rfl (And.intro rfl (And.intro rfl (And.intro rfl (And.intro rfl trivial)))))))
      · refine Y.op (pc' := 1090) (fun _ => X.aloadn rfl dL_law_1089) ?_
        refine Y.op (pc' := 1091) (fun _ => X.aloadn rfl dL_law_1090) ?_
        refine Y.callSi (As := [.ref x1, .ref x3]) lk_L_322 rfl cal_L_isChosen sta_L_isChosen (Nat.le_of_ble_eq_true rfl) rfl rfl (Nat.le_of_ble_eq_true rfl) dL_law_1091 (fun _ e => m_L_isChosen x1 x3 r2.2 _ e) (fun r3 => ?_)
        refine Y.ifeq 1101 (by decide) dL_law_1094 ?_ ?_
        · exact Y.fg (y_L_law_J1101 hkH hkE1110 x1 x2 x3 x4 x5 x7 r3.2) (And.intro rfl (And.intro rfl (And.intro rfl (And.intro rfl (And.intro rfl (And.intro rfl (And.intro rfl trivial)))))))
        · refine Y.op (pc' := 1098) (fun _ => X.ic ki_1 dL_law_1097) ?_
          refine Y.op (pc' := 1102) (fun _ => X.goto 1102 (by decide) dL_law_1098) ?_
          exact Y.fg (y_L_law_J1102 hkH hkE1110 x1 x2 x3 x4 x5 x7 (1 : Int32) r3.2) (And.intro rfl (And.intro rfl (And.intro rfl (And.intro rfl (And.intro rfl (And.intro rfl (And.intro rfl trivial)))))))
def f_L_law_J1058 (S : List Int32) (kH : Nat → Nat → Nat → Nat → Int32 → Int32 → Int32 → xH → Option (Int32 × xH)) (kE1110 : Nat → Nat → Int32 → xH → Option (Int32 × xH)) (x1 : Nat) (x2 : Nat) (x3 : Nat) (x4 : Nat) (x5 : Int32) (x6 : Int32) (x7 : Int32) (h : xH) : Option (Int32 × xH) :=
  (vc h 10 x3 (f_X10_settles x3 (99 : Int32) h)).bind fun r1 =>
  f_L_law_J1065 S (kH) kE1110 x1 x2 x3 x4 x5 x6 x7 r1.2
theorem y_L_law_J1058 {g : xG} {h0 : xH} {kH : Nat → Nat → Nat → Nat → Int32 → Int32 → Int32 → xH → Option (Int32 × xH)} {kE1110 : Nat → Nat → Int32 → xH → Option (Int32 × xH)} (hkH : ∀ (x1 : Nat) (x2 : Nat) (x3 : Nat) (x4 : Nat) (x5 : Int32) (x6 : Int32) (x7 : Int32) (h : xH), Y g DL_law h0 false iI (kH x1 x2 x3 x4 x5 x6 x7 h) 37 [some (.ref 1000000), some (.ref x1), some (.ref x2), some (.ref x3), some (.ref x4), some (.int x5), some (.int x6), some (.int x7), none, none, none, none, none, none, none, none, none, none, none] [] h) (hkE1110 : ∀ (x1 : Nat) (x3 : Nat) (x6 : Int32) (h : xH), Y g DL_law h0 false iI (kE1110 x1 x3 x6 h) 1110 [none, some (.ref x1), none, some (.ref x3), none, none, some (.int x6), none, none, none, none, none, none, none, none, none, none, none, none] [] h) (x1 : Nat) (x2 : Nat) (x3 : Nat) (x4 : Nat) (x5 : Int32) (x6 : Int32) (x7 : Int32) (h : xH) : Y g DL_law h0 false iI (f_L_law_J1058 (gX g) kH kE1110 x1 x2 x3 x4 x5 x6 x7 h) 1058 [some (.ref 1000000), some (.ref x1), some (.ref x2), some (.ref x3), some (.ref x4), some (.int x5), some (.int x6), some (.int x7), none, none, none, none, none, none, none, none, none, none, none] [] h := by
  unfold f_L_law_J1058
  refine Y.op (pc' := 1059) (fun _ => X.aloadn rfl dL_law_1058) ?_
  refine Y.op (pc' := 1061) (fun _ => X.bp kb_99 dL_law_1059) ?_
  refine Y.callVi (As := [.int (99 : Int32)]) lk_L_201 rfl cal_X10_settles vir_X10_settles (Nat.le_of_ble_eq_true rfl) (Nat.le_of_ble_eq_true rfl) rfl rfl rfl (Nat.le_of_ble_eq_true rfl) dL_law_1061 (fun _ e => m_X10_settles x3 (99 : Int32) h _ e) (fun r1 => ?_)
  refine Y.op (pc' := 1065) (fun _ => X.pop rfl dL_law_1064) ?_
  exact y_L_law_J1065 hkH hkE1110 x1 x2 x3 x4 x5 x6 x7 r1.2
def f_L_law_J1017 (S : List Int32) (kH : Nat → Nat → Nat → Nat → Int32 → Int32 → Int32 → xH → Option (Int32 × xH)) (kE1110 : Nat → Nat → Int32 → xH → Option (Int32 × xH)) (x1 : Nat) (x2 : Nat) (x3 : Nat) (x4 : Nat) (x5 : Int32) (x6 : Int32) (x7 : Int32) (x8 : Int32) (x9 : Int32) (x12 : Nat) (x13 : Int32) (x14 : Int32) (h : xH) : Option (Int32 × xH) :=
  if x13 = (0 : Int32) then
    f_L_law_J1065 S (kH) kE1110 x1 x2 x3 x4 x5 x6 x7 h
  else
    (sB h x4 x5 x12).bind fun h1 =>
    lt (x5 + (1 : Int32)) fun v2 =>
    (gI h1 10 x3 2).bind fun v3 =>
    if v3 = (0 : Int32) then
      f_L_law_J1065 S (kH) kE1110 x1 x2 x3 x4 v2 x6 x7 h1
    else
      if x14 = (0 : Int32) then
        if x9 = (6 : Int32) then
          if (x8 &&& (1 : Int32)) = (0 : Int32) then
            f_L_law_J1058 S (kH) kE1110 x1 x2 x3 x4 v2 x6 x7 h1
          else
            f_L_law_J1065 S (kH) kE1110 x1 x2 x3 x4 v2 x6 x7 h1
        else
          f_L_law_J1058 S (kH) kE1110 x1 x2 x3 x4 v2 x6 x7 h1
      else
        f_L_law_J1065 S (kH) kE1110 x1 x2 x3 x4 v2 x6 x7 h1
theorem y_L_law_J1017 {g : xG} {h0 : xH} {kH : Nat → Nat → Nat → Nat → Int32 → Int32 → Int32 → xH → Option (Int32 × xH)} {kE1110 : Nat → Nat → Int32 → xH → Option (Int32 × xH)} (hkH : ∀ (x1 : Nat) (x2 : Nat) (x3 : Nat) (x4 : Nat) (x5 : Int32) (x6 : Int32) (x7 : Int32) (h : xH), Y g DL_law h0 false iI (kH x1 x2 x3 x4 x5 x6 x7 h) 37 [some (.ref 1000000), some (.ref x1), some (.ref x2), some (.ref x3), some (.ref x4), some (.int x5), some (.int x6), some (.int x7), none, none, none, none, none, none, none, none, none, none, none] [] h) (hkE1110 : ∀ (x1 : Nat) (x3 : Nat) (x6 : Int32) (h : xH), Y g DL_law h0 false iI (kE1110 x1 x3 x6 h) 1110 [none, some (.ref x1), none, some (.ref x3), none, none, some (.int x6), none, none, none, none, none, none, none, none, none, none, none, none] [] h) (x1 : Nat) (x2 : Nat) (x3 : Nat) (x4 : Nat) (x5 : Int32) (x6 : Int32) (x7 : Int32) (x8 : Int32) (x9 : Int32) (x12 : Nat) (x13 : Int32) (x14 : Int32) (h : xH) : Y g DL_law h0 false iI (f_L_law_J1017 (gX g) kH kE1110 x1 x2 x3 x4 x5 x6 x7 x8 x9 x12 x13 x14 h) 1017 [some (.ref 1000000), some (.ref x1), some (.ref x2), some (.ref x3), some (.ref x4), some (.int x5), some (.int x6), some (.int x7), some (.int x8), some (.int x9), none, none, some (.ref x12), some (.int x13), some (.int x14), none, none, none, none] [] h := by
  unfold f_L_law_J1017
  refine Y.op (pc' := 1019) (fun _ => X.iload rfl dL_law_1017) ?_
  refine Y.ifeq 1065 (by decide) dL_law_1019 ?_ ?_
  · exact Y.fg (y_L_law_J1065 hkH hkE1110 x1 x2 x3 x4 x5 x6 x7 h) (And.intro rfl (And.intro rfl (And.intro rfl (And.intro rfl (And.intro rfl (And.intro rfl (And.intro rfl (And.intro rfl trivial))))))))
  · refine Y.op (pc' := 1024) (fun _ => X.aload rfl dL_law_1022) ?_
    refine Y.op (pc' := 1026) (fun _ => X.iload rfl dL_law_1024) ?_
    refine Y.op (pc' := 1028) (fun _ => X.aload rfl dL_law_1026) ?_
    refine Y.astB dL_law_1028 (fun h1 => ?_)
    refine Y.iinc (i := 5) (loc' := fun v2 => [some (.ref 1000000), some (.ref x1), some (.ref x2), some (.ref x3), some (.ref x4), some (.int v2), some (.int x6), some (.int x7), some (.int x8), some (.int x9), none, none, some (.ref x12), some (.int x13), some (.int x14), none, none, none, none]) rfl (Nat.le_of_ble_eq_true rfl) ki_1 (fun _ => rfl) dL_law_1029 (fun v2 => ?_)
    refine Y.op (pc' := 1033) (fun _ => X.aloadn rfl dL_law_1032) ?_
    refine Y.getI fd_L_153 rfl dL_law_1033 (fun v3 => ?_)
    refine Y.ifeq 1065 (by decide) dL_law_1036 ?_ ?_
    · exact Y.fg (y_L_law_J1065 hkH hkE1110 x1 x2 x3 x4 v2 x6 x7 h1) (And.intro rfl (And.intro rfl (And.intro rfl (And.intro rfl (And.intro rfl (And.intro rfl (And.intro rfl (And.intro rfl trivial))))))))
    · refine Y.op (pc' := 1041) (fun _ => X.iload rfl dL_law_1039) ?_
      refine Y.ifne 1065 (by decide) dL_law_1041 ?_ ?_
      · exact Y.fg (y_L_law_J1065 hkH hkE1110 x1 x2 x3 x4 v2 x6 x7 h1) (And.intro rfl (And.intro rfl (And.intro rfl (And.intro rfl (And.intro rfl (And.intro rfl (And.intro rfl (And.intro rfl trivial))))))))
      · refine Y.op (pc' := 1046) (fun _ => X.iload rfl dL_law_1044) ?_
        refine Y.op (pc' := 1048) (fun _ => X.bp kb_6 dL_law_1046) ?_
        refine Y.cmpne 1058 (by decide) dL_law_1048 ?_ ?_
        · exact Y.fg (y_L_law_J1058 hkH hkE1110 x1 x2 x3 x4 v2 x6 x7 h1) (And.intro rfl (And.intro rfl (And.intro rfl (And.intro rfl (And.intro rfl (And.intro rfl (And.intro rfl (And.intro rfl trivial))))))))
        · refine Y.op (pc' := 1053) (fun _ => X.iload rfl dL_law_1051) ?_
          refine Y.op (pc' := 1054) (fun _ => X.ic ki_1 dL_law_1053) ?_
          refine Y.op (pc' := 1055) (fun _ => X.iand dL_law_1054) ?_
          refine Y.ifne 1065 (by decide) dL_law_1055 ?_ ?_
          · exact Y.fg (y_L_law_J1065 hkH hkE1110 x1 x2 x3 x4 v2 x6 x7 h1) (And.intro rfl (And.intro rfl (And.intro rfl (And.intro rfl (And.intro rfl (And.intro rfl (And.intro rfl (And.intro rfl trivial))))))))
          · exact Y.fg (y_L_law_J1058 hkH hkE1110 x1 x2 x3 x4 v2 x6 x7 h1) (And.intro rfl (And.intro rfl (And.intro rfl (And.intro rfl (And.intro rfl (And.intro rfl (And.intro rfl (And.intro rfl trivial))))))))
def f_L_law_J998 (S : List Int32) (kH : Nat → Nat → Nat → Nat → Int32 → Int32 → Int32 → xH → Option (Int32 × xH)) (kE1110 : Nat → Nat → Int32 → xH → Option (Int32 × xH)) (x1 : Nat) (x2 : Nat) (x3 : Nat) (x4 : Nat) (x5 : Int32) (x7 : Int32) (x8 : Int32) (x9 : Int32) (x12 : Nat) (x14 : Int32) (s0 : Int32) (h : xH) : Option (Int32 × xH) :=
  if x5 ≤ (0 : Int32) then
    f_L_law_J1017 S (kH) kE1110 x1 x2 x3 x4 x5 s0 x7 x8 x9 x12 (0 : Int32) x14 h
  else
    lt (x5 + (-1 : Int32)) fun v1 =>
    (aR 103 h x4 v1).bind fun v2 =>
    f_L_law_J1017 S (kH) kE1110 x1 x2 v2 x4 v1 s0 x7 x8 x9 x12 (0 : Int32) x14 h
theorem y_L_law_J998 {g : xG} {h0 : xH} {kH : Nat → Nat → Nat → Nat → Int32 → Int32 → Int32 → xH → Option (Int32 × xH)} {kE1110 : Nat → Nat → Int32 → xH → Option (Int32 × xH)} (hkH : ∀ (x1 : Nat) (x2 : Nat) (x3 : Nat) (x4 : Nat) (x5 : Int32) (x6 : Int32) (x7 : Int32) (h : xH), Y g DL_law h0 false iI (kH x1 x2 x3 x4 x5 x6 x7 h) 37 [some (.ref 1000000), some (.ref x1), some (.ref x2), some (.ref x3), some (.ref x4), some (.int x5), some (.int x6), some (.int x7), none, none, none, none, none, none, none, none, none, none, none] [] h) (hkE1110 : ∀ (x1 : Nat) (x3 : Nat) (x6 : Int32) (h : xH), Y g DL_law h0 false iI (kE1110 x1 x3 x6 h) 1110 [none, some (.ref x1), none, some (.ref x3), none, none, some (.int x6), none, none, none, none, none, none, none, none, none, none, none, none] [] h) (x1 : Nat) (x2 : Nat) (x3 : Nat) (x4 : Nat) (x5 : Int32) (x7 : Int32) (x8 : Int32) (x9 : Int32) (x12 : Nat) (x14 : Int32) (s0 : Int32) (h : xH) : Y g DL_law h0 false iI (f_L_law_J998 (gX g) kH kE1110 x1 x2 x3 x4 x5 x7 x8 x9 x12 x14 s0 h) 998 [some (.ref 1000000), some (.ref x1), some (.ref x2), some (.ref x3), some (.ref x4), some (.int x5), none, some (.int x7), some (.int x8), some (.int x9), none, none, some (.ref x12), none, some (.int x14), none, none, none, none] [.int s0] h := by
  unfold f_L_law_J998
  refine Y.op (pc' := 1000) (loc' := [some (.ref 1000000), some (.ref x1), some (.ref x2), some (.ref x3), some (.ref x4), some (.int x5), some (.int s0), some (.int x7), some (.int x8), some (.int x9), none, none, some (.ref x12), none, some (.int x14), none, none, none, none]) (fun _ => X.istore (Nat.le_of_ble_eq_true rfl) rfl dL_law_998) ?_
  refine Y.op (pc' := 1001) (fun _ => X.ic ki_0 dL_law_1000) ?_
  refine Y.op (pc' := 1003) (loc' := [some (.ref 1000000), some (.ref x1), some (.ref x2), some (.ref x3), some (.ref x4), some (.int x5), some (.int s0), some (.int x7), some (.int x8), some (.int x9), none, none, some (.ref x12), some (.int (0 : Int32)), some (.int x14), none, none, none, none]) (fun _ => X.istore (Nat.le_of_ble_eq_true rfl) rfl dL_law_1001) ?_
  refine Y.op (pc' := 1005) (fun _ => X.iload rfl dL_law_1003) ?_
  refine Y.ifle 1017 (by decide) dL_law_1005 ?_ ?_
  · exact y_L_law_J1017 hkH hkE1110 x1 x2 x3 x4 x5 s0 x7 x8 x9 x12 (0 : Int32) x14 h
  · refine Y.iinc (i := 5) (loc' := fun v1 => [some (.ref 1000000), some (.ref x1), some (.ref x2), some (.ref x3), some (.ref x4), some (.int v1), some (.int s0), some (.int x7), some (.int x8), some (.int x9), none, none, some (.ref x12), some (.int (0 : Int32)), some (.int x14), none, none, none, none]) rfl (Nat.le_of_ble_eq_true rfl) ki_m1 (fun _ => rfl) dL_law_1008 (fun v1 => ?_)
    refine Y.op (pc' := 1013) (fun _ => X.aload rfl dL_law_1011) ?_
    refine Y.op (pc' := 1015) (fun _ => X.iload rfl dL_law_1013) ?_
    refine Y.aldR 103 (by decide) (by decide) dL_law_1015 (fun v2 => ?_)
    refine Y.op (pc' := 1017) (loc' := [some (.ref 1000000), some (.ref x1), some (.ref x2), some (.ref v2), some (.ref x4), some (.int v1), some (.int s0), some (.int x7), some (.int x8), some (.int x9), none, none, some (.ref x12), some (.int (0 : Int32)), some (.int x14), none, none, none, none]) (fun _ => X.astoren (Nat.le_of_ble_eq_true rfl) rfl dL_law_1016) ?_
    exact y_L_law_J1017 hkH hkE1110 x1 x2 v2 x4 v1 s0 x7 x8 x9 x12 (0 : Int32) x14 h
def f_L_law_J990 (S : List Int32) (kH : Nat → Nat → Nat → Nat → Int32 → Int32 → Int32 → xH → Option (Int32 × xH)) (kE1110 : Nat → Nat → Int32 → xH → Option (Int32 × xH)) (x1 : Nat) (x2 : Nat) (x3 : Nat) (x4 : Nat) (x5 : Int32) (x7 : Int32) (x8 : Int32) (x9 : Int32) (x12 : Nat) (x14 : Int32) (s0 : Int32) (s1 : Int32) (h : xH) : Option (Int32 × xH) :=
  if s0 = s1 then
    f_L_law_J998 S (kH) kE1110 x1 x2 x3 x4 x5 x7 x8 x9 x12 x14 (1 : Int32) h
  else
    f_L_law_J998 S (kH) kE1110 x1 x2 x3 x4 x5 x7 x8 x9 x12 x14 (0 : Int32) h
theorem y_L_law_J990 {g : xG} {h0 : xH} {kH : Nat → Nat → Nat → Nat → Int32 → Int32 → Int32 → xH → Option (Int32 × xH)} {kE1110 : Nat → Nat → Int32 → xH → Option (Int32 × xH)} (hkH : ∀ (x1 : Nat) (x2 : Nat) (x3 : Nat) (x4 : Nat) (x5 : Int32) (x6 : Int32) (x7 : Int32) (h : xH), Y g DL_law h0 false iI (kH x1 x2 x3 x4 x5 x6 x7 h) 37 [some (.ref 1000000), some (.ref x1), some (.ref x2), some (.ref x3), some (.ref x4), some (.int x5), some (.int x6), some (.int x7), none, none, none, none, none, none, none, none, none, none, none] [] h) (hkE1110 : ∀ (x1 : Nat) (x3 : Nat) (x6 : Int32) (h : xH), Y g DL_law h0 false iI (kE1110 x1 x3 x6 h) 1110 [none, some (.ref x1), none, some (.ref x3), none, none, some (.int x6), none, none, none, none, none, none, none, none, none, none, none, none] [] h) (x1 : Nat) (x2 : Nat) (x3 : Nat) (x4 : Nat) (x5 : Int32) (x7 : Int32) (x8 : Int32) (x9 : Int32) (x12 : Nat) (x14 : Int32) (s0 : Int32) (s1 : Int32) (h : xH) : Y g DL_law h0 false iI (f_L_law_J990 (gX g) kH kE1110 x1 x2 x3 x4 x5 x7 x8 x9 x12 x14 s0 s1 h) 990 [some (.ref 1000000), some (.ref x1), some (.ref x2), some (.ref x3), some (.ref x4), some (.int x5), none, some (.int x7), some (.int x8), some (.int x9), none, none, some (.ref x12), none, some (.int x14), none, none, none, none] [.int s1, .int s0] h := by
  unfold f_L_law_J990
  refine Y.cmpne 997 (by decide) dL_law_990 ?_ ?_
  · refine Y.op (pc' := 998) (fun _ => X.ic ki_0 dL_law_997) ?_
    exact y_L_law_J998 hkH hkE1110 x1 x2 x3 x4 x5 x7 x8 x9 x12 x14 (0 : Int32) h
  · refine Y.op (pc' := 994) (fun _ => X.ic ki_1 dL_law_993) ?_
    refine Y.op (pc' := 998) (fun _ => X.goto 998 (by decide) dL_law_994) ?_
    exact y_L_law_J998 hkH hkE1110 x1 x2 x3 x4 x5 x7 x8 x9 x12 x14 (1 : Int32) h
def f_L_law_J968 (S : List Int32) (kH : Nat → Nat → Nat → Nat → Int32 → Int32 → Int32 → xH → Option (Int32 × xH)) (kE1110 : Nat → Nat → Int32 → xH → Option (Int32 × xH)) (x1 : Nat) (x2 : Nat) (x3 : Nat) (x4 : Nat) (x5 : Int32) (x6 : Int32) (x7 : Int32) (x8 : Int32) (x9 : Int32) (x12 : Nat) (x14 : Int32) (s0 : Int32) (h : xH) : Option (Int32 × xH) :=
  f_L_law_J1017 S (kH) kE1110 x1 x2 x3 x4 x5 x6 x7 x8 x9 x12 s0 x14 h
theorem y_L_law_J968 {g : xG} {h0 : xH} {kH : Nat → Nat → Nat → Nat → Int32 → Int32 → Int32 → xH → Option (Int32 × xH)} {kE1110 : Nat → Nat → Int32 → xH → Option (Int32 × xH)} (hkH : ∀ (x1 : Nat) (x2 : Nat) (x3 : Nat) (x4 : Nat) (x5 : Int32) (x6 : Int32) (x7 : Int32) (h : xH), Y g DL_law h0 false iI (kH x1 x2 x3 x4 x5 x6 x7 h) 37 [some (.ref 1000000), some (.ref x1), some (.ref x2), some (.ref x3), some (.ref x4), some (.int x5), some (.int x6), some (.int x7), none, none, none, none, none, none, none, none, none, none, none] [] h) (hkE1110 : ∀ (x1 : Nat) (x3 : Nat) (x6 : Int32) (h : xH), Y g DL_law h0 false iI (kE1110 x1 x3 x6 h) 1110 [none, some (.ref x1), none, some (.ref x3), none, none, some (.int x6), none, none, none, none, none, none, none, none, none, none, none, none] [] h) (x1 : Nat) (x2 : Nat) (x3 : Nat) (x4 : Nat) (x5 : Int32) (x6 : Int32) (x7 : Int32) (x8 : Int32) (x9 : Int32) (x12 : Nat) (x14 : Int32) (s0 : Int32) (h : xH) : Y g DL_law h0 false iI (f_L_law_J968 (gX g) kH kE1110 x1 x2 x3 x4 x5 x6 x7 x8 x9 x12 x14 s0 h) 968 [some (.ref 1000000), some (.ref x1), some (.ref x2), some (.ref x3), some (.ref x4), some (.int x5), some (.int x6), some (.int x7), some (.int x8), some (.int x9), none, none, some (.ref x12), none, some (.int x14), none, none, none, none] [.int s0] h := by
  unfold f_L_law_J968
  refine Y.op (pc' := 970) (loc' := [some (.ref 1000000), some (.ref x1), some (.ref x2), some (.ref x3), some (.ref x4), some (.int x5), some (.int x6), some (.int x7), some (.int x8), some (.int x9), none, none, some (.ref x12), some (.int s0), some (.int x14), none, none, none, none]) (fun _ => X.istore (Nat.le_of_ble_eq_true rfl) rfl dL_law_968) ?_
  refine Y.op (pc' := 1017) (fun _ => X.goto 1017 (by decide) dL_law_970) ?_
  exact y_L_law_J1017 hkH hkE1110 x1 x2 x3 x4 x5 x6 x7 x8 x9 x12 s0 x14 h
def f_L_law_J956 (S : List Int32) (kH : Nat → Nat → Nat → Nat → Int32 → Int32 → Int32 → xH → Option (Int32 × xH)) (kE1110 : Nat → Nat → Int32 → xH → Option (Int32 × xH)) (x1 : Nat) (x2 : Nat) (x3 : Nat) (x4 : Nat) (x5 : Int32) (x7 : Int32) (x8 : Int32) (x9 : Int32) (x12 : Nat) (x14 : Int32) (x16 : Int32) (s0 : Int32) (h : xH) : Option (Int32 × xH) :=
  if x16 ≤ (0 : Int32) then
    f_L_law_J968 S (kH) kE1110 x1 x2 x3 x4 x5 s0 x7 x8 x9 x12 x14 (0 : Int32) h
  else
    f_L_law_J968 S (kH) kE1110 x1 x2 x3 x4 x5 s0 x7 x8 x9 x12 x14 (1 : Int32) h
theorem y_L_law_J956 {g : xG} {h0 : xH} {kH : Nat → Nat → Nat → Nat → Int32 → Int32 → Int32 → xH → Option (Int32 × xH)} {kE1110 : Nat → Nat → Int32 → xH → Option (Int32 × xH)} (hkH : ∀ (x1 : Nat) (x2 : Nat) (x3 : Nat) (x4 : Nat) (x5 : Int32) (x6 : Int32) (x7 : Int32) (h : xH), Y g DL_law h0 false iI (kH x1 x2 x3 x4 x5 x6 x7 h) 37 [some (.ref 1000000), some (.ref x1), some (.ref x2), some (.ref x3), some (.ref x4), some (.int x5), some (.int x6), some (.int x7), none, none, none, none, none, none, none, none, none, none, none] [] h) (hkE1110 : ∀ (x1 : Nat) (x3 : Nat) (x6 : Int32) (h : xH), Y g DL_law h0 false iI (kE1110 x1 x3 x6 h) 1110 [none, some (.ref x1), none, some (.ref x3), none, none, some (.int x6), none, none, none, none, none, none, none, none, none, none, none, none] [] h) (x1 : Nat) (x2 : Nat) (x3 : Nat) (x4 : Nat) (x5 : Int32) (x7 : Int32) (x8 : Int32) (x9 : Int32) (x12 : Nat) (x14 : Int32) (x16 : Int32) (s0 : Int32) (h : xH) : Y g DL_law h0 false iI (f_L_law_J956 (gX g) kH kE1110 x1 x2 x3 x4 x5 x7 x8 x9 x12 x14 x16 s0 h) 956 [some (.ref 1000000), some (.ref x1), some (.ref x2), some (.ref x3), some (.ref x4), some (.int x5), none, some (.int x7), some (.int x8), some (.int x9), none, none, some (.ref x12), none, some (.int x14), none, some (.int x16), none, none] [.int s0] h := by
  unfold f_L_law_J956
  refine Y.op (pc' := 958) (loc' := [some (.ref 1000000), some (.ref x1), some (.ref x2), some (.ref x3), some (.ref x4), some (.int x5), some (.int s0), some (.int x7), some (.int x8), some (.int x9), none, none, some (.ref x12), none, some (.int x14), none, some (.int x16), none, none]) (fun _ => X.istore (Nat.le_of_ble_eq_true rfl) rfl dL_law_956) ?_
  refine Y.op (pc' := 960) (fun _ => X.iload rfl dL_law_958) ?_
  refine Y.ifle 967 (by decide) dL_law_960 ?_ ?_
  · refine Y.op (pc' := 968) (fun _ => X.ic ki_0 dL_law_967) ?_
    exact Y.fg (y_L_law_J968 hkH hkE1110 x1 x2 x3 x4 x5 s0 x7 x8 x9 x12 x14 (0 : Int32) h) (And.intro rfl (And.intro rfl (And.intro rfl (And.intro rfl (And.intro rfl (And.intro rfl (And.intro rfl (And.intro rfl (And.intro rfl (And.intro rfl (And.intro rfl (And.intro rfl trivial))))))))))))
  · refine Y.op (pc' := 964) (fun _ => X.ic ki_1 dL_law_963) ?_
    refine Y.op (pc' := 968) (fun _ => X.goto 968 (by decide) dL_law_964) ?_
    exact Y.fg (y_L_law_J968 hkH hkE1110 x1 x2 x3 x4 x5 s0 x7 x8 x9 x12 x14 (1 : Int32) h) (And.intro rfl (And.intro rfl (And.intro rfl (And.intro rfl (And.intro rfl (And.intro rfl (And.intro rfl (And.intro rfl (And.intro rfl (And.intro rfl (And.intro rfl (And.intro rfl trivial))))))))))))
def f_L_law_J916 (S : List Int32) (kH : Nat → Nat → Nat → Nat → Int32 → Int32 → Int32 → xH → Option (Int32 × xH)) (kE1110 : Nat → Nat → Int32 → xH → Option (Int32 × xH)) (x1 : Nat) (x2 : Nat) (x3 : Nat) (x4 : Nat) (x5 : Int32) (x6 : Int32) (x7 : Int32) (x8 : Int32) (x9 : Int32) (x12 : Nat) (x13 : Int32) (x14 : Int32) (s0 : Nat) (s1 : Int32) (h : xH) : Option (Int32 × xH) :=
  (pZ h 10 s0 2 s1).bind fun h1 =>
  f_L_law_J1017 S (kH) kE1110 x1 x2 x3 x4 x5 x6 x7 x8 x9 x12 x13 x14 h1
theorem y_L_law_J916 {g : xG} {h0 : xH} {kH : Nat → Nat → Nat → Nat → Int32 → Int32 → Int32 → xH → Option (Int32 × xH)} {kE1110 : Nat → Nat → Int32 → xH → Option (Int32 × xH)} (hkH : ∀ (x1 : Nat) (x2 : Nat) (x3 : Nat) (x4 : Nat) (x5 : Int32) (x6 : Int32) (x7 : Int32) (h : xH), Y g DL_law h0 false iI (kH x1 x2 x3 x4 x5 x6 x7 h) 37 [some (.ref 1000000), some (.ref x1), some (.ref x2), some (.ref x3), some (.ref x4), some (.int x5), some (.int x6), some (.int x7), none, none, none, none, none, none, none, none, none, none, none] [] h) (hkE1110 : ∀ (x1 : Nat) (x3 : Nat) (x6 : Int32) (h : xH), Y g DL_law h0 false iI (kE1110 x1 x3 x6 h) 1110 [none, some (.ref x1), none, some (.ref x3), none, none, some (.int x6), none, none, none, none, none, none, none, none, none, none, none, none] [] h) (x1 : Nat) (x2 : Nat) (x3 : Nat) (x4 : Nat) (x5 : Int32) (x6 : Int32) (x7 : Int32) (x8 : Int32) (x9 : Int32) (x12 : Nat) (x13 : Int32) (x14 : Int32) (s0 : Nat) (s1 : Int32) (h : xH) : Y g DL_law h0 false iI (f_L_law_J916 (gX g) kH kE1110 x1 x2 x3 x4 x5 x6 x7 x8 x9 x12 x13 x14 s0 s1 h) 916 [some (.ref 1000000), some (.ref x1), some (.ref x2), some (.ref x3), some (.ref x4), some (.int x5), some (.int x6), some (.int x7), some (.int x8), some (.int x9), none, none, some (.ref x12), some (.int x13), some (.int x14), none, none, none, none] [.int s1, .ref s0] h := by
  unfold f_L_law_J916
  refine Y.putZ fd_L_153 rfl dL_law_916 (fun h1 => ?_)
  refine Y.op (pc' := 1017) (fun _ => X.goto 1017 (by decide) dL_law_919) ?_
  exact y_L_law_J1017 hkH hkE1110 x1 x2 x3 x4 x5 x6 x7 x8 x9 x12 x13 x14 h1
def f_L_law_J898 (S : List Int32) (kH : Nat → Nat → Nat → Nat → Int32 → Int32 → Int32 → xH → Option (Int32 × xH)) (kE1110 : Nat → Nat → Int32 → xH → Option (Int32 × xH)) (x1 : Nat) (x2 : Nat) (x3 : Nat) (x4 : Nat) (x5 : Int32) (x7 : Int32) (x8 : Int32) (x9 : Int32) (x12 : Nat) (x13 : Int32) (x14 : Int32) (s0 : Int32) (h : xH) : Option (Int32 × xH) :=
  if ((x8 >>> ((1 : Int32) &&& 31)) &&& (1 : Int32)) = (1 : Int32) then
    f_L_law_J916 S (kH) kE1110 x1 x2 x3 x4 x5 s0 x7 x8 x9 x12 x13 x14 x3 (1 : Int32) h
  else
    f_L_law_J916 S (kH) kE1110 x1 x2 x3 x4 x5 s0 x7 x8 x9 x12 x13 x14 x3 (0 : Int32) h
theorem y_L_law_J898 {g : xG} {h0 : xH} {kH : Nat → Nat → Nat → Nat → Int32 → Int32 → Int32 → xH → Option (Int32 × xH)} {kE1110 : Nat → Nat → Int32 → xH → Option (Int32 × xH)} (hkH : ∀ (x1 : Nat) (x2 : Nat) (x3 : Nat) (x4 : Nat) (x5 : Int32) (x6 : Int32) (x7 : Int32) (h : xH), Y g DL_law h0 false iI (kH x1 x2 x3 x4 x5 x6 x7 h) 37 [some (.ref 1000000), some (.ref x1), some (.ref x2), some (.ref x3), some (.ref x4), some (.int x5), some (.int x6), some (.int x7), none, none, none, none, none, none, none, none, none, none, none] [] h) (hkE1110 : ∀ (x1 : Nat) (x3 : Nat) (x6 : Int32) (h : xH), Y g DL_law h0 false iI (kE1110 x1 x3 x6 h) 1110 [none, some (.ref x1), none, some (.ref x3), none, none, some (.int x6), none, none, none, none, none, none, none, none, none, none, none, none] [] h) (x1 : Nat) (x2 : Nat) (x3 : Nat) (x4 : Nat) (x5 : Int32) (x7 : Int32) (x8 : Int32) (x9 : Int32) (x12 : Nat) (x13 : Int32) (x14 : Int32) (s0 : Int32) (h : xH) : Y g DL_law h0 false iI (f_L_law_J898 (gX g) kH kE1110 x1 x2 x3 x4 x5 x7 x8 x9 x12 x13 x14 s0 h) 898 [some (.ref 1000000), some (.ref x1), some (.ref x2), some (.ref x3), some (.ref x4), some (.int x5), none, some (.int x7), some (.int x8), some (.int x9), none, none, some (.ref x12), some (.int x13), some (.int x14), none, none, none, none] [.int s0] h := by
  unfold f_L_law_J898
  refine Y.op (pc' := 900) (loc' := [some (.ref 1000000), some (.ref x1), some (.ref x2), some (.ref x3), some (.ref x4), some (.int x5), some (.int s0), some (.int x7), some (.int x8), some (.int x9), none, none, some (.ref x12), some (.int x13), some (.int x14), none, none, none, none]) (fun _ => X.istore (Nat.le_of_ble_eq_true rfl) rfl dL_law_898) ?_
  refine Y.op (pc' := 901) (fun _ => X.aloadn rfl dL_law_900) ?_
  refine Y.op (pc' := 903) (fun _ => X.iload rfl dL_law_901) ?_
  refine Y.op (pc' := 904) (fun _ => X.ic ki_1 dL_law_903) ?_
  refine Y.op (pc' := 905) (fun _ => X.ishr dL_law_904) ?_
  refine Y.op (pc' := 906) (fun _ => X.ic ki_1 dL_law_905) ?_
  refine Y.op (pc' := 907) (fun _ => X.iand dL_law_906) ?_
  refine Y.op (pc' := 908) (fun _ => X.ic ki_1 dL_law_907) ?_
  refine Y.cmpne 915 (by decide) dL_law_908 ?_ ?_
  · refine Y.op (pc' := 916) (fun _ => X.ic ki_0 dL_law_915) ?_
    exact y_L_law_J916 hkH hkE1110 x1 x2 x3 x4 x5 s0 x7 x8 x9 x12 x13 x14 x3 (0 : Int32) h
  · refine Y.op (pc' := 912) (fun _ => X.ic ki_1 dL_law_911) ?_
    refine Y.op (pc' := 916) (fun _ => X.goto 916 (by decide) dL_law_912) ?_
    exact y_L_law_J916 hkH hkE1110 x1 x2 x3 x4 x5 s0 x7 x8 x9 x12 x13 x14 x3 (1 : Int32) h
def f_L_law_J890 (S : List Int32) (kH : Nat → Nat → Nat → Nat → Int32 → Int32 → Int32 → xH → Option (Int32 × xH)) (kE1110 : Nat → Nat → Int32 → xH → Option (Int32 × xH)) (x1 : Nat) (x2 : Nat) (x3 : Nat) (x4 : Nat) (x5 : Int32) (x7 : Int32) (x8 : Int32) (x9 : Int32) (x12 : Nat) (x13 : Int32) (x14 : Int32) (s0 : Int32) (s1 : Int32) (h : xH) : Option (Int32 × xH) :=
  if s0 = s1 then
    f_L_law_J898 S (kH) kE1110 x1 x2 x3 x4 x5 x7 x8 x9 x12 x13 x14 (1 : Int32) h
  else
    f_L_law_J898 S (kH) kE1110 x1 x2 x3 x4 x5 x7 x8 x9 x12 x13 x14 (0 : Int32) h
theorem y_L_law_J890 {g : xG} {h0 : xH} {kH : Nat → Nat → Nat → Nat → Int32 → Int32 → Int32 → xH → Option (Int32 × xH)} {kE1110 : Nat → Nat → Int32 → xH → Option (Int32 × xH)} (hkH : ∀ (x1 : Nat) (x2 : Nat) (x3 : Nat) (x4 : Nat) (x5 : Int32) (x6 : Int32) (x7 : Int32) (h : xH), Y g DL_law h0 false iI (kH x1 x2 x3 x4 x5 x6 x7 h) 37 [some (.ref 1000000), some (.ref x1), some (.ref x2), some (.ref x3), some (.ref x4), some (.int x5), some (.int x6), some (.int x7), none, none, none, none, none, none, none, none, none, none, none] [] h) (hkE1110 : ∀ (x1 : Nat) (x3 : Nat) (x6 : Int32) (h : xH), Y g DL_law h0 false iI (kE1110 x1 x3 x6 h) 1110 [none, some (.ref x1), none, some (.ref x3), none, none, some (.int x6), none, none, none, none, none, none, none, none, none, none, none, none] [] h) (x1 : Nat) (x2 : Nat) (x3 : Nat) (x4 : Nat) (x5 : Int32) (x7 : Int32) (x8 : Int32) (x9 : Int32) (x12 : Nat) (x13 : Int32) (x14 : Int32) (s0 : Int32) (s1 : Int32) (h : xH) : Y g DL_law h0 false iI (f_L_law_J890 (gX g) kH kE1110 x1 x2 x3 x4 x5 x7 x8 x9 x12 x13 x14 s0 s1 h) 890 [some (.ref 1000000), some (.ref x1), some (.ref x2), some (.ref x3), some (.ref x4), some (.int x5), none, some (.int x7), some (.int x8), some (.int x9), none, none, some (.ref x12), some (.int x13), some (.int x14), none, none, none, none] [.int s1, .int s0] h := by
  unfold f_L_law_J890
  refine Y.cmpne 897 (by decide) dL_law_890 ?_ ?_
  · refine Y.op (pc' := 898) (fun _ => X.ic ki_0 dL_law_897) ?_
    exact y_L_law_J898 hkH hkE1110 x1 x2 x3 x4 x5 x7 x8 x9 x12 x13 x14 (0 : Int32) h
  · refine Y.op (pc' := 894) (fun _ => X.ic ki_1 dL_law_893) ?_
    refine Y.op (pc' := 898) (fun _ => X.goto 898 (by decide) dL_law_894) ?_
    exact y_L_law_J898 hkH hkE1110 x1 x2 x3 x4 x5 x7 x8 x9 x12 x13 x14 (1 : Int32) h
def f_L_law_J841 (S : List Int32) (kH : Nat → Nat → Nat → Nat → Int32 → Int32 → Int32 → xH → Option (Int32 × xH)) (kE1110 : Nat → Nat → Int32 → xH → Option (Int32 × xH)) (x1 : Nat) (x2 : Nat) (x3 : Nat) (x4 : Nat) (x5 : Int32) (x7 : Int32) (x8 : Int32) (x9 : Int32) (x10 : Int32) (x12 : Nat) (x13 : Int32) (x14 : Int32) (s0 : Int32) (h : xH) : Option (Int32 × xH) :=
  (gR h 10 x3 6).bind fun v1 =>
  (sI h v1 x10 (-1 : Int32)).bind fun h2 =>
  f_L_law_J1017 S (kH) kE1110 x1 x2 x3 x4 x5 s0 x7 x8 x9 x12 x13 x14 h2
theorem y_L_law_J841 {g : xG} {h0 : xH} {kH : Nat → Nat → Nat → Nat → Int32 → Int32 → Int32 → xH → Option (Int32 × xH)} {kE1110 : Nat → Nat → Int32 → xH → Option (Int32 × xH)} (hkH : ∀ (x1 : Nat) (x2 : Nat) (x3 : Nat) (x4 : Nat) (x5 : Int32) (x6 : Int32) (x7 : Int32) (h : xH), Y g DL_law h0 false iI (kH x1 x2 x3 x4 x5 x6 x7 h) 37 [some (.ref 1000000), some (.ref x1), some (.ref x2), some (.ref x3), some (.ref x4), some (.int x5), some (.int x6), some (.int x7), none, none, none, none, none, none, none, none, none, none, none] [] h) (hkE1110 : ∀ (x1 : Nat) (x3 : Nat) (x6 : Int32) (h : xH), Y g DL_law h0 false iI (kE1110 x1 x3 x6 h) 1110 [none, some (.ref x1), none, some (.ref x3), none, none, some (.int x6), none, none, none, none, none, none, none, none, none, none, none, none] [] h) (x1 : Nat) (x2 : Nat) (x3 : Nat) (x4 : Nat) (x5 : Int32) (x7 : Int32) (x8 : Int32) (x9 : Int32) (x10 : Int32) (x12 : Nat) (x13 : Int32) (x14 : Int32) (s0 : Int32) (h : xH) : Y g DL_law h0 false iI (f_L_law_J841 (gX g) kH kE1110 x1 x2 x3 x4 x5 x7 x8 x9 x10 x12 x13 x14 s0 h) 841 [some (.ref 1000000), some (.ref x1), some (.ref x2), some (.ref x3), some (.ref x4), some (.int x5), none, some (.int x7), some (.int x8), some (.int x9), some (.int x10), none, some (.ref x12), some (.int x13), some (.int x14), none, none, none, none] [.int s0] h := by
  unfold f_L_law_J841
  refine Y.op (pc' := 843) (loc' := [some (.ref 1000000), some (.ref x1), some (.ref x2), some (.ref x3), some (.ref x4), some (.int x5), some (.int s0), some (.int x7), some (.int x8), some (.int x9), some (.int x10), none, some (.ref x12), some (.int x13), some (.int x14), none, none, none, none]) (fun _ => X.istore (Nat.le_of_ble_eq_true rfl) rfl dL_law_841) ?_
  refine Y.op (pc' := 844) (fun _ => X.aloadn rfl dL_law_843) ?_
  refine Y.getR fd_L_189 rfl dL_law_844 (fun v1 => ?_)
  refine Y.op (pc' := 849) (fun _ => X.iload rfl dL_law_847) ?_
  refine Y.op (pc' := 850) (fun _ => X.ic ki_m1 dL_law_849) ?_
  refine Y.astI dL_law_850 (fun h2 => ?_)
  refine Y.op (pc' := 1017) (fun _ => X.goto 1017 (by decide) dL_law_851) ?_
  exact Y.fg (y_L_law_J1017 hkH hkE1110 x1 x2 x3 x4 x5 s0 x7 x8 x9 x12 x13 x14 h2) (And.intro rfl (And.intro rfl (And.intro rfl (And.intro rfl (And.intro rfl (And.intro rfl (And.intro rfl (And.intro rfl (And.intro rfl (And.intro rfl (And.intro rfl (And.intro rfl (And.intro rfl trivial)))))))))))))
def f_L_law_J833 (S : List Int32) (kH : Nat → Nat → Nat → Nat → Int32 → Int32 → Int32 → xH → Option (Int32 × xH)) (kE1110 : Nat → Nat → Int32 → xH → Option (Int32 × xH)) (x1 : Nat) (x2 : Nat) (x3 : Nat) (x4 : Nat) (x5 : Int32) (x7 : Int32) (x8 : Int32) (x9 : Int32) (x10 : Int32) (x12 : Nat) (x13 : Int32) (x14 : Int32) (s0 : Int32) (s1 : Int32) (h : xH) : Option (Int32 × xH) :=
  if s0 = s1 then
    f_L_law_J841 S (kH) kE1110 x1 x2 x3 x4 x5 x7 x8 x9 x10 x12 x13 x14 (1 : Int32) h
  else
    f_L_law_J841 S (kH) kE1110 x1 x2 x3 x4 x5 x7 x8 x9 x10 x12 x13 x14 (0 : Int32) h
theorem y_L_law_J833 {g : xG} {h0 : xH} {kH : Nat → Nat → Nat → Nat → Int32 → Int32 → Int32 → xH → Option (Int32 × xH)} {kE1110 : Nat → Nat → Int32 → xH → Option (Int32 × xH)} (hkH : ∀ (x1 : Nat) (x2 : Nat) (x3 : Nat) (x4 : Nat) (x5 : Int32) (x6 : Int32) (x7 : Int32) (h : xH), Y g DL_law h0 false iI (kH x1 x2 x3 x4 x5 x6 x7 h) 37 [some (.ref 1000000), some (.ref x1), some (.ref x2), some (.ref x3), some (.ref x4), some (.int x5), some (.int x6), some (.int x7), none, none, none, none, none, none, none, none, none, none, none] [] h) (hkE1110 : ∀ (x1 : Nat) (x3 : Nat) (x6 : Int32) (h : xH), Y g DL_law h0 false iI (kE1110 x1 x3 x6 h) 1110 [none, some (.ref x1), none, some (.ref x3), none, none, some (.int x6), none, none, none, none, none, none, none, none, none, none, none, none] [] h) (x1 : Nat) (x2 : Nat) (x3 : Nat) (x4 : Nat) (x5 : Int32) (x7 : Int32) (x8 : Int32) (x9 : Int32) (x10 : Int32) (x12 : Nat) (x13 : Int32) (x14 : Int32) (s0 : Int32) (s1 : Int32) (h : xH) : Y g DL_law h0 false iI (f_L_law_J833 (gX g) kH kE1110 x1 x2 x3 x4 x5 x7 x8 x9 x10 x12 x13 x14 s0 s1 h) 833 [some (.ref 1000000), some (.ref x1), some (.ref x2), some (.ref x3), some (.ref x4), some (.int x5), none, some (.int x7), some (.int x8), some (.int x9), some (.int x10), none, some (.ref x12), some (.int x13), some (.int x14), none, none, none, none] [.int s1, .int s0] h := by
  unfold f_L_law_J833
  refine Y.cmpne 840 (by decide) dL_law_833 ?_ ?_
  · refine Y.op (pc' := 841) (fun _ => X.ic ki_0 dL_law_840) ?_
    exact y_L_law_J841 hkH hkE1110 x1 x2 x3 x4 x5 x7 x8 x9 x10 x12 x13 x14 (0 : Int32) h
  · refine Y.op (pc' := 837) (fun _ => X.ic ki_1 dL_law_836) ?_
    refine Y.op (pc' := 841) (fun _ => X.goto 841 (by decide) dL_law_837) ?_
    exact y_L_law_J841 hkH hkE1110 x1 x2 x3 x4 x5 x7 x8 x9 x10 x12 x13 x14 (1 : Int32) h
def f_L_law_J808 (S : List Int32) (kH : Nat → Nat → Nat → Nat → Int32 → Int32 → Int32 → xH → Option (Int32 × xH)) (kE1110 : Nat → Nat → Int32 → xH → Option (Int32 × xH)) (x1 : Nat) (x2 : Nat) (x3 : Nat) (x4 : Nat) (x5 : Int32) (x7 : Int32) (x8 : Int32) (x9 : Int32) (x10 : Int32) (x12 : Nat) (x14 : Int32) (s0 : Int32) (h : xH) : Option (Int32 × xH) :=
  (f_L_part x1 x10 h).bind fun r1 =>
  if s0 = (0 : Int32) then
    f_L_law_J833 S (kH) kE1110 x1 x2 x3 x4 x5 x7 x8 x9 x10 x12 s0 x14 r1.1 (-2000000098 : Int32) r1.2
  else
    (gR r1.2 10 x3 6).bind fun v2 =>
    (aI r1.2 v2 x10).bind fun v3 =>
    f_L_law_J833 S (kH) kE1110 x1 x2 x3 x4 x5 x7 x8 x9 x10 x12 s0 x14 r1.1 v3 r1.2
theorem y_L_law_J808 {g : xG} {h0 : xH} {kH : Nat → Nat → Nat → Nat → Int32 → Int32 → Int32 → xH → Option (Int32 × xH)} {kE1110 : Nat → Nat → Int32 → xH → Option (Int32 × xH)} (hkH : ∀ (x1 : Nat) (x2 : Nat) (x3 : Nat) (x4 : Nat) (x5 : Int32) (x6 : Int32) (x7 : Int32) (h : xH), Y g DL_law h0 false iI (kH x1 x2 x3 x4 x5 x6 x7 h) 37 [some (.ref 1000000), some (.ref x1), some (.ref x2), some (.ref x3), some (.ref x4), some (.int x5), some (.int x6), some (.int x7), none, none, none, none, none, none, none, none, none, none, none] [] h) (hkE1110 : ∀ (x1 : Nat) (x3 : Nat) (x6 : Int32) (h : xH), Y g DL_law h0 false iI (kE1110 x1 x3 x6 h) 1110 [none, some (.ref x1), none, some (.ref x3), none, none, some (.int x6), none, none, none, none, none, none, none, none, none, none, none, none] [] h) (x1 : Nat) (x2 : Nat) (x3 : Nat) (x4 : Nat) (x5 : Int32) (x7 : Int32) (x8 : Int32) (x9 : Int32) (x10 : Int32) (x12 : Nat) (x14 : Int32) (s0 : Int32) (h : xH) : Y g DL_law h0 false iI (f_L_law_J808 (gX g) kH kE1110 x1 x2 x3 x4 x5 x7 x8 x9 x10 x12 x14 s0 h) 808 [some (.ref 1000000), some (.ref x1), some (.ref x2), some (.ref x3), some (.ref x4), some (.int x5), none, some (.int x7), some (.int x8), some (.int x9), some (.int x10), none, some (.ref x12), none, some (.int x14), none, none, none, none] [.int s0] h := by
  unfold f_L_law_J808
  refine Y.op (pc' := 810) (loc' := [some (.ref 1000000), some (.ref x1), some (.ref x2), some (.ref x3), some (.ref x4), some (.int x5), none, some (.int x7), some (.int x8), some (.int x9), some (.int x10), none, some (.ref x12), some (.int s0), some (.int x14), none, none, none, none]) (fun _ => X.istore (Nat.le_of_ble_eq_true rfl) rfl dL_law_808) ?_
  refine Y.op (pc' := 811) (fun _ => X.aloadn rfl dL_law_810) ?_
  refine Y.op (pc' := 813) (fun _ => X.iload rfl dL_law_811) ?_
  refine Y.callSWi (As := [.ref x1, .int x10]) lkw_L_part rfl calw_L_part staw_L_part (Nat.le_of_ble_eq_true rfl) rfl rfl (Nat.le_of_ble_eq_true rfl) dL_law_813 (fun _ e => m_L_part x1 x10 h _ e) (fun r1 => ?_)
  refine Y.op (pc' := 818) (fun _ => X.iload rfl dL_law_816) ?_
  refine Y.ifeq 831 (by decide) dL_law_818 ?_ ?_
  · refine Y.op (pc' := 833) (fun _ => X.ldcI wc_L_35 rfl dL_law_831) ?_
    exact y_L_law_J833 hkH hkE1110 x1 x2 x3 x4 x5 x7 x8 x9 x10 x12 s0 x14 r1.1 (-2000000098 : Int32) r1.2
  · refine Y.op (pc' := 822) (fun _ => X.aloadn rfl dL_law_821) ?_
    refine Y.getR fd_L_189 rfl dL_law_822 (fun v2 => ?_)
    refine Y.op (pc' := 827) (fun _ => X.iload rfl dL_law_825) ?_
    refine Y.aldI dL_law_827 (fun v3 => ?_)
    refine Y.op (pc' := 833) (fun _ => X.goto 833 (by decide) dL_law_828) ?_
    exact y_L_law_J833 hkH hkE1110 x1 x2 x3 x4 x5 x7 x8 x9 x10 x12 s0 x14 r1.1 v3 r1.2
def f_L_law_J782 (S : List Int32) (kH : Nat → Nat → Nat → Nat → Int32 → Int32 → Int32 → xH → Option (Int32 × xH)) (kE1110 : Nat → Nat → Int32 → xH → Option (Int32 × xH)) (x1 : Nat) (x2 : Nat) (x3 : Nat) (x4 : Nat) (x5 : Int32) (x7 : Int32) (x8 : Int32) (x9 : Int32) (x12 : Nat) (x13 : Int32) (x14 : Int32) (s0 : Int32) (h : xH) : Option (Int32 × xH) :=
  f_L_law_J1017 S (kH) kE1110 x1 x2 x3 x4 x5 s0 x7 x8 x9 x12 x13 x14 h
theorem y_L_law_J782 {g : xG} {h0 : xH} {kH : Nat → Nat → Nat → Nat → Int32 → Int32 → Int32 → xH → Option (Int32 × xH)} {kE1110 : Nat → Nat → Int32 → xH → Option (Int32 × xH)} (hkH : ∀ (x1 : Nat) (x2 : Nat) (x3 : Nat) (x4 : Nat) (x5 : Int32) (x6 : Int32) (x7 : Int32) (h : xH), Y g DL_law h0 false iI (kH x1 x2 x3 x4 x5 x6 x7 h) 37 [some (.ref 1000000), some (.ref x1), some (.ref x2), some (.ref x3), some (.ref x4), some (.int x5), some (.int x6), some (.int x7), none, none, none, none, none, none, none, none, none, none, none] [] h) (hkE1110 : ∀ (x1 : Nat) (x3 : Nat) (x6 : Int32) (h : xH), Y g DL_law h0 false iI (kE1110 x1 x3 x6 h) 1110 [none, some (.ref x1), none, some (.ref x3), none, none, some (.int x6), none, none, none, none, none, none, none, none, none, none, none, none] [] h) (x1 : Nat) (x2 : Nat) (x3 : Nat) (x4 : Nat) (x5 : Int32) (x7 : Int32) (x8 : Int32) (x9 : Int32) (x12 : Nat) (x13 : Int32) (x14 : Int32) (s0 : Int32) (h : xH) : Y g DL_law h0 false iI (f_L_law_J782 (gX g) kH kE1110 x1 x2 x3 x4 x5 x7 x8 x9 x12 x13 x14 s0 h) 782 [some (.ref 1000000), some (.ref x1), some (.ref x2), some (.ref x3), some (.ref x4), some (.int x5), none, some (.int x7), some (.int x8), some (.int x9), none, none, some (.ref x12), some (.int x13), some (.int x14), none, none, none, none] [.int s0] h := by
  unfold f_L_law_J782
  refine Y.op (pc' := 784) (loc' := [some (.ref 1000000), some (.ref x1), some (.ref x2), some (.ref x3), some (.ref x4), some (.int x5), some (.int s0), some (.int x7), some (.int x8), some (.int x9), none, none, some (.ref x12), some (.int x13), some (.int x14), none, none, none, none]) (fun _ => X.istore (Nat.le_of_ble_eq_true rfl) rfl dL_law_782) ?_
  refine Y.op (pc' := 1017) (fun _ => X.goto 1017 (by decide) dL_law_784) ?_
  exact y_L_law_J1017 hkH hkE1110 x1 x2 x3 x4 x5 s0 x7 x8 x9 x12 x13 x14 h
def f_L_law_J774 (S : List Int32) (kH : Nat → Nat → Nat → Nat → Int32 → Int32 → Int32 → xH → Option (Int32 × xH)) (kE1110 : Nat → Nat → Int32 → xH → Option (Int32 × xH)) (x1 : Nat) (x2 : Nat) (x3 : Nat) (x4 : Nat) (x5 : Int32) (x7 : Int32) (x8 : Int32) (x9 : Int32) (x12 : Nat) (x13 : Int32) (x14 : Int32) (s0 : Int32) (s1 : Int32) (h : xH) : Option (Int32 × xH) :=
  if s0 = s1 then
    f_L_law_J782 S (kH) kE1110 x1 x2 x3 x4 x5 x7 x8 x9 x12 x13 x14 (1 : Int32) h
  else
    f_L_law_J782 S (kH) kE1110 x1 x2 x3 x4 x5 x7 x8 x9 x12 x13 x14 (0 : Int32) h
theorem y_L_law_J774 {g : xG} {h0 : xH} {kH : Nat → Nat → Nat → Nat → Int32 → Int32 → Int32 → xH → Option (Int32 × xH)} {kE1110 : Nat → Nat → Int32 → xH → Option (Int32 × xH)} (hkH : ∀ (x1 : Nat) (x2 : Nat) (x3 : Nat) (x4 : Nat) (x5 : Int32) (x6 : Int32) (x7 : Int32) (h : xH), Y g DL_law h0 false iI (kH x1 x2 x3 x4 x5 x6 x7 h) 37 [some (.ref 1000000), some (.ref x1), some (.ref x2), some (.ref x3), some (.ref x4), some (.int x5), some (.int x6), some (.int x7), none, none, none, none, none, none, none, none, none, none, none] [] h) (hkE1110 : ∀ (x1 : Nat) (x3 : Nat) (x6 : Int32) (h : xH), Y g DL_law h0 false iI (kE1110 x1 x3 x6 h) 1110 [none, some (.ref x1), none, some (.ref x3), none, none, some (.int x6), none, none, none, none, none, none, none, none, none, none, none, none] [] h) (x1 : Nat) (x2 : Nat) (x3 : Nat) (x4 : Nat) (x5 : Int32) (x7 : Int32) (x8 : Int32) (x9 : Int32) (x12 : Nat) (x13 : Int32) (x14 : Int32) (s0 : Int32) (s1 : Int32) (h : xH) : Y g DL_law h0 false iI (f_L_law_J774 (gX g) kH kE1110 x1 x2 x3 x4 x5 x7 x8 x9 x12 x13 x14 s0 s1 h) 774 [some (.ref 1000000), some (.ref x1), some (.ref x2), some (.ref x3), some (.ref x4), some (.int x5), none, some (.int x7), some (.int x8), some (.int x9), none, none, some (.ref x12), some (.int x13), some (.int x14), none, none, none, none] [.int s1, .int s0] h := by
  unfold f_L_law_J774
  refine Y.cmpne 781 (by decide) dL_law_774 ?_ ?_
  · refine Y.op (pc' := 782) (fun _ => X.ic ki_0 dL_law_781) ?_
    exact y_L_law_J782 hkH hkE1110 x1 x2 x3 x4 x5 x7 x8 x9 x12 x13 x14 (0 : Int32) h
  · refine Y.op (pc' := 778) (fun _ => X.ic ki_1 dL_law_777) ?_
    refine Y.op (pc' := 782) (fun _ => X.goto 782 (by decide) dL_law_778) ?_
    exact y_L_law_J782 hkH hkE1110 x1 x2 x3 x4 x5 x7 x8 x9 x12 x13 x14 (1 : Int32) h
def f_L_law_J752 (S : List Int32) (kH : Nat → Nat → Nat → Nat → Int32 → Int32 → Int32 → xH → Option (Int32 × xH)) (kE1110 : Nat → Nat → Int32 → xH → Option (Int32 × xH)) (x1 : Nat) (x2 : Nat) (x3 : Nat) (x4 : Nat) (x5 : Int32) (x7 : Int32) (x8 : Int32) (x9 : Int32) (x10 : Int32) (x11 : Int32) (x12 : Nat) (x13 : Int32) (x14 : Int32) (h : xH) : Option (Int32 × xH) :=
  (f_L_pair x1 x10 x11 h).bind fun r1 =>
  if x13 = (0 : Int32) then
    f_L_law_J774 S (kH) kE1110 x1 x2 x3 x4 x5 x7 x8 x9 x12 x13 x14 r1.1 (-2000000098 : Int32) r1.2
  else
    (vc r1.2 10 x3 (f_X10_pairs x3 r1.2)).bind fun r2 =>
    f_L_law_J774 S (kH) kE1110 x1 x2 x3 x4 x5 x7 x8 x9 x12 x13 x14 r1.1 r2.1 r2.2
theorem y_L_law_J752 {g : xG} {h0 : xH} {kH : Nat → Nat → Nat → Nat → Int32 → Int32 → Int32 → xH → Option (Int32 × xH)} {kE1110 : Nat → Nat → Int32 → xH → Option (Int32 × xH)} (hkH : ∀ (x1 : Nat) (x2 : Nat) (x3 : Nat) (x4 : Nat) (x5 : Int32) (x6 : Int32) (x7 : Int32) (h : xH), Y g DL_law h0 false iI (kH x1 x2 x3 x4 x5 x6 x7 h) 37 [some (.ref 1000000), some (.ref x1), some (.ref x2), some (.ref x3), some (.ref x4), some (.int x5), some (.int x6), some (.int x7), none, none, none, none, none, none, none, none, none, none, none] [] h) (hkE1110 : ∀ (x1 : Nat) (x3 : Nat) (x6 : Int32) (h : xH), Y g DL_law h0 false iI (kE1110 x1 x3 x6 h) 1110 [none, some (.ref x1), none, some (.ref x3), none, none, some (.int x6), none, none, none, none, none, none, none, none, none, none, none, none] [] h) (x1 : Nat) (x2 : Nat) (x3 : Nat) (x4 : Nat) (x5 : Int32) (x7 : Int32) (x8 : Int32) (x9 : Int32) (x10 : Int32) (x11 : Int32) (x12 : Nat) (x13 : Int32) (x14 : Int32) (h : xH) : Y g DL_law h0 false iI (f_L_law_J752 (gX g) kH kE1110 x1 x2 x3 x4 x5 x7 x8 x9 x10 x11 x12 x13 x14 h) 752 [some (.ref 1000000), some (.ref x1), some (.ref x2), some (.ref x3), some (.ref x4), some (.int x5), none, some (.int x7), some (.int x8), some (.int x9), some (.int x10), some (.int x11), some (.ref x12), some (.int x13), some (.int x14), none, none, none, none] [] h := by
  unfold f_L_law_J752
  refine Y.op (pc' := 753) (fun _ => X.aloadn rfl dL_law_752) ?_
  refine Y.op (pc' := 755) (fun _ => X.iload rfl dL_law_753) ?_
  refine Y.op (pc' := 757) (fun _ => X.iload rfl dL_law_755) ?_
  refine Y.callSWi (As := [.ref x1, .int x10, .int x11]) lkw_L_pair rfl calw_L_pair staw_L_pair (Nat.le_of_ble_eq_true rfl) rfl rfl (Nat.le_of_ble_eq_true rfl) dL_law_757 (fun _ e => m_L_pair x1 x10 x11 h _ e) (fun r1 => ?_)
  refine Y.op (pc' := 762) (fun _ => X.iload rfl dL_law_760) ?_
  refine Y.ifeq 772 (by decide) dL_law_762 ?_ ?_
  · refine Y.op (pc' := 774) (fun _ => X.ldcI wc_L_35 rfl dL_law_772) ?_
    exact Y.fg (y_L_law_J774 hkH hkE1110 x1 x2 x3 x4 x5 x7 x8 x9 x12 x13 x14 r1.1 (-2000000098 : Int32) r1.2) (And.intro rfl (And.intro rfl (And.intro rfl (And.intro rfl (And.intro rfl (And.intro rfl (And.intro rfl (And.intro rfl (And.intro rfl (And.intro rfl (And.intro rfl (And.intro rfl trivial))))))))))))
  · refine Y.op (pc' := 766) (fun _ => X.aloadn rfl dL_law_765) ?_
    refine Y.callVi (As := []) lk_L_208 rfl cal_X10_pairs vir_X10_pairs (Nat.le_of_ble_eq_true rfl) (Nat.le_of_ble_eq_true rfl) rfl rfl rfl (Nat.le_of_ble_eq_true rfl) dL_law_766 (fun _ e => m_X10_pairs x3 r1.2 _ e) (fun r2 => ?_)
    refine Y.op (pc' := 774) (fun _ => X.goto 774 (by decide) dL_law_769) ?_
    exact Y.fg (y_L_law_J774 hkH hkE1110 x1 x2 x3 x4 x5 x7 x8 x9 x12 x13 x14 r1.1 r2.1 r2.2) (And.intro rfl (And.intro rfl (And.intro rfl (And.intro rfl (And.intro rfl (And.intro rfl (And.intro rfl (And.intro rfl (And.intro rfl (And.intro rfl (And.intro rfl (And.intro rfl trivial))))))))))))
def f_L_law_J743 (S : List Int32) (kH : Nat → Nat → Nat → Nat → Int32 → Int32 → Int32 → xH → Option (Int32 × xH)) (kE1110 : Nat → Nat → Int32 → xH → Option (Int32 × xH)) (x1 : Nat) (x2 : Nat) (x3 : Nat) (x4 : Nat) (x5 : Int32) (x7 : Int32) (x8 : Int32) (x9 : Int32) (x10 : Int32) (x11 : Int32) (x12 : Nat) (x13 : Int32) (x14 : Int32) (h : xH) : Option (Int32 × xH) :=
  (gR h 10 x3 6).bind fun v1 =>
  (sI h v1 x10 x11).bind fun h2 =>
  f_L_law_J752 S (kH) kE1110 x1 x2 x3 x4 x5 x7 x8 x9 x10 x11 x12 x13 x14 h2
theorem y_L_law_J743 {g : xG} {h0 : xH} {kH : Nat → Nat → Nat → Nat → Int32 → Int32 → Int32 → xH → Option (Int32 × xH)} {kE1110 : Nat → Nat → Int32 → xH → Option (Int32 × xH)} (hkH : ∀ (x1 : Nat) (x2 : Nat) (x3 : Nat) (x4 : Nat) (x5 : Int32) (x6 : Int32) (x7 : Int32) (h : xH), Y g DL_law h0 false iI (kH x1 x2 x3 x4 x5 x6 x7 h) 37 [some (.ref 1000000), some (.ref x1), some (.ref x2), some (.ref x3), some (.ref x4), some (.int x5), some (.int x6), some (.int x7), none, none, none, none, none, none, none, none, none, none, none] [] h) (hkE1110 : ∀ (x1 : Nat) (x3 : Nat) (x6 : Int32) (h : xH), Y g DL_law h0 false iI (kE1110 x1 x3 x6 h) 1110 [none, some (.ref x1), none, some (.ref x3), none, none, some (.int x6), none, none, none, none, none, none, none, none, none, none, none, none] [] h) (x1 : Nat) (x2 : Nat) (x3 : Nat) (x4 : Nat) (x5 : Int32) (x7 : Int32) (x8 : Int32) (x9 : Int32) (x10 : Int32) (x11 : Int32) (x12 : Nat) (x13 : Int32) (x14 : Int32) (h : xH) : Y g DL_law h0 false iI (f_L_law_J743 (gX g) kH kE1110 x1 x2 x3 x4 x5 x7 x8 x9 x10 x11 x12 x13 x14 h) 743 [some (.ref 1000000), some (.ref x1), some (.ref x2), some (.ref x3), some (.ref x4), some (.int x5), none, some (.int x7), some (.int x8), some (.int x9), some (.int x10), some (.int x11), some (.ref x12), some (.int x13), some (.int x14), none, none, none, none] [] h := by
  unfold f_L_law_J743
  refine Y.op (pc' := 744) (fun _ => X.aloadn rfl dL_law_743) ?_
  refine Y.getR fd_L_189 rfl dL_law_744 (fun v1 => ?_)
  refine Y.op (pc' := 749) (fun _ => X.iload rfl dL_law_747) ?_
  refine Y.op (pc' := 751) (fun _ => X.iload rfl dL_law_749) ?_
  refine Y.astI dL_law_751 (fun h2 => ?_)
  exact y_L_law_J752 hkH hkE1110 x1 x2 x3 x4 x5 x7 x8 x9 x10 x11 x12 x13 x14 h2
def f_L_law_J715 (S : List Int32) (kH : Nat → Nat → Nat → Nat → Int32 → Int32 → Int32 → xH → Option (Int32 × xH)) (kE1110 : Nat → Nat → Int32 → xH → Option (Int32 × xH)) (x1 : Nat) (x2 : Nat) (x3 : Nat) (x4 : Nat) (x5 : Int32) (x7 : Int32) (x8 : Int32) (x9 : Int32) (x10 : Int32) (x11 : Int32) (x12 : Nat) (x14 : Int32) (s0 : Int32) (h : xH) : Option (Int32 × xH) :=
  (vc h 10 x3 (f_X10_owner x3 x11 h)).bind fun r1 =>
  if s0 = (0 : Int32) then
    f_L_law_J752 S (kH) kE1110 x1 x2 x3 x4 x5 x7 x8 x9 x10 x11 x12 s0 x14 r1.2
  else
    if r1.1 < (0 : Int32) then
      f_L_law_J743 S (kH) kE1110 x1 x2 x3 x4 x5 x7 x8 x9 x10 x11 x12 s0 x14 r1.2
    else
      (gR r1.2 10 x3 6).bind fun v2 =>
      (sI r1.2 v2 r1.1 (-1 : Int32)).bind fun h3 =>
      f_L_law_J743 S (kH) kE1110 x1 x2 x3 x4 x5 x7 x8 x9 x10 x11 x12 s0 x14 h3
theorem y_L_law_J715 {g : xG} {h0 : xH} {kH : Nat → Nat → Nat → Nat → Int32 → Int32 → Int32 → xH → Option (Int32 × xH)} {kE1110 : Nat → Nat → Int32 → xH → Option (Int32 × xH)} (hkH : ∀ (x1 : Nat) (x2 : Nat) (x3 : Nat) (x4 : Nat) (x5 : Int32) (x6 : Int32) (x7 : Int32) (h : xH), Y g DL_law h0 false iI (kH x1 x2 x3 x4 x5 x6 x7 h) 37 [some (.ref 1000000), some (.ref x1), some (.ref x2), some (.ref x3), some (.ref x4), some (.int x5), some (.int x6), some (.int x7), none, none, none, none, none, none, none, none, none, none, none] [] h) (hkE1110 : ∀ (x1 : Nat) (x3 : Nat) (x6 : Int32) (h : xH), Y g DL_law h0 false iI (kE1110 x1 x3 x6 h) 1110 [none, some (.ref x1), none, some (.ref x3), none, none, some (.int x6), none, none, none, none, none, none, none, none, none, none, none, none] [] h) (x1 : Nat) (x2 : Nat) (x3 : Nat) (x4 : Nat) (x5 : Int32) (x7 : Int32) (x8 : Int32) (x9 : Int32) (x10 : Int32) (x11 : Int32) (x12 : Nat) (x14 : Int32) (s0 : Int32) (h : xH) : Y g DL_law h0 false iI (f_L_law_J715 (gX g) kH kE1110 x1 x2 x3 x4 x5 x7 x8 x9 x10 x11 x12 x14 s0 h) 715 [some (.ref 1000000), some (.ref x1), some (.ref x2), some (.ref x3), some (.ref x4), some (.int x5), none, some (.int x7), some (.int x8), some (.int x9), some (.int x10), some (.int x11), some (.ref x12), none, some (.int x14), none, none, none, none] [.int s0] h := by
  unfold f_L_law_J715
  refine Y.op (pc' := 717) (loc' := [some (.ref 1000000), some (.ref x1), some (.ref x2), some (.ref x3), some (.ref x4), some (.int x5), none, some (.int x7), some (.int x8), some (.int x9), some (.int x10), some (.int x11), some (.ref x12), some (.int s0), some (.int x14), none, none, none, none]) (fun _ => X.istore (Nat.le_of_ble_eq_true rfl) rfl dL_law_715) ?_
  refine Y.op (pc' := 718) (fun _ => X.aloadn rfl dL_law_717) ?_
  refine Y.op (pc' := 720) (fun _ => X.iload rfl dL_law_718) ?_
  refine Y.callVi (As := [.int x11]) lk_L_186 rfl cal_X10_owner vir_X10_owner (Nat.le_of_ble_eq_true rfl) (Nat.le_of_ble_eq_true rfl) rfl rfl rfl (Nat.le_of_ble_eq_true rfl) dL_law_720 (fun _ e => m_X10_owner x3 x11 h _ e) (fun r1 => ?_)
  refine Y.op (pc' := 725) (loc' := [some (.ref 1000000), some (.ref x1), some (.ref x2), some (.ref x3), some (.ref x4), some (.int x5), none, some (.int x7), some (.int x8), some (.int x9), some (.int x10), some (.int x11), some (.ref x12), some (.int s0), some (.int x14), some (.int r1.1), none, none, none]) (fun _ => X.istore (Nat.le_of_ble_eq_true rfl) rfl dL_law_723) ?_
  refine Y.op (pc' := 727) (fun _ => X.iload rfl dL_law_725) ?_
  refine Y.ifeq 752 (by decide) dL_law_727 ?_ ?_
  · exact Y.fg (y_L_law_J752 hkH hkE1110 x1 x2 x3 x4 x5 x7 x8 x9 x10 x11 x12 s0 x14 r1.2) (And.intro rfl (And.intro rfl (And.intro rfl (And.intro rfl (And.intro rfl (And.intro rfl (And.intro rfl (And.intro rfl (And.intro rfl (And.intro rfl (And.intro rfl (And.intro rfl (And.intro rfl (And.intro rfl trivial))))))))))))))
  · refine Y.op (pc' := 732) (fun _ => X.iload rfl dL_law_730) ?_
    refine Y.iflt 743 (by decide) dL_law_732 ?_ ?_
    · exact Y.fg (y_L_law_J743 hkH hkE1110 x1 x2 x3 x4 x5 x7 x8 x9 x10 x11 x12 s0 x14 r1.2) (And.intro rfl (And.intro rfl (And.intro rfl (And.intro rfl (And.intro rfl (And.intro rfl (And.intro rfl (And.intro rfl (And.intro rfl (And.intro rfl (And.intro rfl (And.intro rfl (And.intro rfl (And.intro rfl trivial))))))))))))))
    · refine Y.op (pc' := 736) (fun _ => X.aloadn rfl dL_law_735) ?_
      refine Y.getR fd_L_189 rfl dL_law_736 (fun v2 => ?_)
      refine Y.op (pc' := 741) (fun _ => X.iload rfl dL_law_739) ?_
      refine Y.op (pc' := 742) (fun _ => X.ic ki_m1 dL_law_741) ?_
      refine Y.astI dL_law_742 (fun h3 => ?_)
      exact Y.fg (y_L_law_J743 hkH hkE1110 x1 x2 x3 x4 x5 x7 x8 x9 x10 x11 x12 s0 x14 h3) (And.intro rfl (And.intro rfl (And.intro rfl (And.intro rfl (And.intro rfl (And.intro rfl (And.intro rfl (And.intro rfl (And.intro rfl (And.intro rfl (And.intro rfl (And.intro rfl (And.intro rfl (And.intro rfl trivial))))))))))))))
def f_L_law_J714 (S : List Int32) (kH : Nat → Nat → Nat → Nat → Int32 → Int32 → Int32 → xH → Option (Int32 × xH)) (kE1110 : Nat → Nat → Int32 → xH → Option (Int32 × xH)) (x1 : Nat) (x2 : Nat) (x3 : Nat) (x4 : Nat) (x5 : Int32) (x7 : Int32) (x8 : Int32) (x9 : Int32) (x10 : Int32) (x11 : Int32) (x12 : Nat) (x14 : Int32) (h : xH) : Option (Int32 × xH) :=
  f_L_law_J715 S (kH) kE1110 x1 x2 x3 x4 x5 x7 x8 x9 x10 x11 x12 x14 (0 : Int32) h
theorem y_L_law_J714 {g : xG} {h0 : xH} {kH : Nat → Nat → Nat → Nat → Int32 → Int32 → Int32 → xH → Option (Int32 × xH)} {kE1110 : Nat → Nat → Int32 → xH → Option (Int32 × xH)} (hkH : ∀ (x1 : Nat) (x2 : Nat) (x3 : Nat) (x4 : Nat) (x5 : Int32) (x6 : Int32) (x7 : Int32) (h : xH), Y g DL_law h0 false iI (kH x1 x2 x3 x4 x5 x6 x7 h) 37 [some (.ref 1000000), some (.ref x1), some (.ref x2), some (.ref x3), some (.ref x4), some (.int x5), some (.int x6), some (.int x7), none, none, none, none, none, none, none, none, none, none, none] [] h) (hkE1110 : ∀ (x1 : Nat) (x3 : Nat) (x6 : Int32) (h : xH), Y g DL_law h0 false iI (kE1110 x1 x3 x6 h) 1110 [none, some (.ref x1), none, some (.ref x3), none, none, some (.int x6), none, none, none, none, none, none, none, none, none, none, none, none] [] h) (x1 : Nat) (x2 : Nat) (x3 : Nat) (x4 : Nat) (x5 : Int32) (x7 : Int32) (x8 : Int32) (x9 : Int32) (x10 : Int32) (x11 : Int32) (x12 : Nat) (x14 : Int32) (h : xH) : Y g DL_law h0 false iI (f_L_law_J714 (gX g) kH kE1110 x1 x2 x3 x4 x5 x7 x8 x9 x10 x11 x12 x14 h) 714 [some (.ref 1000000), some (.ref x1), some (.ref x2), some (.ref x3), some (.ref x4), some (.int x5), none, some (.int x7), some (.int x8), some (.int x9), some (.int x10), some (.int x11), some (.ref x12), none, some (.int x14), none, none, none, none] [] h := by
  unfold f_L_law_J714
  refine Y.op (pc' := 715) (fun _ => X.ic ki_0 dL_law_714) ?_
  exact y_L_law_J715 hkH hkE1110 x1 x2 x3 x4 x5 x7 x8 x9 x10 x11 x12 x14 (0 : Int32) h
def f_L_law_J678 (S : List Int32) (kH : Nat → Nat → Nat → Nat → Int32 → Int32 → Int32 → xH → Option (Int32 × xH)) (kE1110 : Nat → Nat → Int32 → xH → Option (Int32 × xH)) (x1 : Nat) (x2 : Nat) (x3 : Nat) (x4 : Nat) (x5 : Int32) (x6 : Int32) (x7 : Int32) (x8 : Int32) (x9 : Int32) (x12 : Nat) (x13 : Int32) (x14 : Int32) (h : xH) : Option (Int32 × xH) :=
  f_L_law_J1017 S (kH) kE1110 x1 x2 x3 x4 x5 x6 x7 x8 x9 x12 x13 x14 h
theorem y_L_law_J678 {g : xG} {h0 : xH} {kH : Nat → Nat → Nat → Nat → Int32 → Int32 → Int32 → xH → Option (Int32 × xH)} {kE1110 : Nat → Nat → Int32 → xH → Option (Int32 × xH)} (hkH : ∀ (x1 : Nat) (x2 : Nat) (x3 : Nat) (x4 : Nat) (x5 : Int32) (x6 : Int32) (x7 : Int32) (h : xH), Y g DL_law h0 false iI (kH x1 x2 x3 x4 x5 x6 x7 h) 37 [some (.ref 1000000), some (.ref x1), some (.ref x2), some (.ref x3), some (.ref x4), some (.int x5), some (.int x6), some (.int x7), none, none, none, none, none, none, none, none, none, none, none] [] h) (hkE1110 : ∀ (x1 : Nat) (x3 : Nat) (x6 : Int32) (h : xH), Y g DL_law h0 false iI (kE1110 x1 x3 x6 h) 1110 [none, some (.ref x1), none, some (.ref x3), none, none, some (.int x6), none, none, none, none, none, none, none, none, none, none, none, none] [] h) (x1 : Nat) (x2 : Nat) (x3 : Nat) (x4 : Nat) (x5 : Int32) (x6 : Int32) (x7 : Int32) (x8 : Int32) (x9 : Int32) (x12 : Nat) (x13 : Int32) (x14 : Int32) (h : xH) : Y g DL_law h0 false iI (f_L_law_J678 (gX g) kH kE1110 x1 x2 x3 x4 x5 x6 x7 x8 x9 x12 x13 x14 h) 678 [some (.ref 1000000), some (.ref x1), some (.ref x2), some (.ref x3), some (.ref x4), some (.int x5), some (.int x6), some (.int x7), some (.int x8), some (.int x9), none, none, some (.ref x12), some (.int x13), some (.int x14), none, none, none, none] [] h := by
  unfold f_L_law_J678
  refine Y.op (pc' := 1017) (fun _ => X.goto 1017 (by decide) dL_law_678) ?_
  exact y_L_law_J1017 hkH hkE1110 x1 x2 x3 x4 x5 x6 x7 x8 x9 x12 x13 x14 h
def f_L_law_J649 (S : List Int32) (kH : Nat → Nat → Nat → Nat → Int32 → Int32 → Int32 → xH → Option (Int32 × xH)) (kE1110 : Nat → Nat → Int32 → xH → Option (Int32 × xH)) (x1 : Nat) (x2 : Nat) (x3 : Nat) (x4 : Nat) (x5 : Int32) (x6 : Int32) (x7 : Int32) (x8 : Int32) (x9 : Int32) (x10 : Int32) (x12 : Nat) (x13 : Int32) (x14 : Int32) (x16 : Int32) (x18 : Int32) (h : xH) : Option (Int32 × xH) :=
  if x16 = (0 : Int32) then
    if x18 < (0 : Int32) then
      f_L_law_J678 S (kH) kE1110 x1 x2 x3 x4 x5 x6 x7 x8 x9 x12 x13 x14 h
    else
      (gR h 10 x3 6).bind fun v1 =>
      (sI h v1 x18 (-1 : Int32)).bind fun h2 =>
      f_L_law_J678 S (kH) kE1110 x1 x2 x3 x4 x5 x6 x7 x8 x9 x12 x13 x14 h2
  else
    (gR h 10 x3 6).bind fun v3 =>
    (sI h v3 x10 (-1 : Int32)).bind fun h4 =>
    f_L_law_J678 S (kH) kE1110 x1 x2 x3 x4 x5 x6 x7 x8 x9 x12 x13 x14 h4
theorem y_L_law_J649 {g : xG} {h0 : xH} {kH : Nat → Nat → Nat → Nat → Int32 → Int32 → Int32 → xH → Option (Int32 × xH)} {kE1110 : Nat → Nat → Int32 → xH → Option (Int32 × xH)} (hkH : ∀ (x1 : Nat) (x2 : Nat) (x3 : Nat) (x4 : Nat) (x5 : Int32) (x6 : Int32) (x7 : Int32) (h : xH), Y g DL_law h0 false iI (kH x1 x2 x3 x4 x5 x6 x7 h) 37 [some (.ref 1000000), some (.ref x1), some (.ref x2), some (.ref x3), some (.ref x4), some (.int x5), some (.int x6), some (.int x7), none, none, none, none, none, none, none, none, none, none, none] [] h) (hkE1110 : ∀ (x1 : Nat) (x3 : Nat) (x6 : Int32) (h : xH), Y g DL_law h0 false iI (kE1110 x1 x3 x6 h) 1110 [none, some (.ref x1), none, some (.ref x3), none, none, some (.int x6), none, none, none, none, none, none, none, none, none, none, none, none] [] h) (x1 : Nat) (x2 : Nat) (x3 : Nat) (x4 : Nat) (x5 : Int32) (x6 : Int32) (x7 : Int32) (x8 : Int32) (x9 : Int32) (x10 : Int32) (x12 : Nat) (x13 : Int32) (x14 : Int32) (x16 : Int32) (x18 : Int32) (h : xH) : Y g DL_law h0 false iI (f_L_law_J649 (gX g) kH kE1110 x1 x2 x3 x4 x5 x6 x7 x8 x9 x10 x12 x13 x14 x16 x18 h) 649 [some (.ref 1000000), some (.ref x1), some (.ref x2), some (.ref x3), some (.ref x4), some (.int x5), some (.int x6), some (.int x7), some (.int x8), some (.int x9), some (.int x10), none, some (.ref x12), some (.int x13), some (.int x14), none, some (.int x16), none, some (.int x18)] [] h := by
  unfold f_L_law_J649
  refine Y.op (pc' := 651) (fun _ => X.iload rfl dL_law_649) ?_
  refine Y.ifeq 665 (by decide) dL_law_651 ?_ ?_
  · refine Y.op (pc' := 667) (fun _ => X.iload rfl dL_law_665) ?_
    refine Y.iflt 678 (by decide) dL_law_667 ?_ ?_
    · exact Y.fg (y_L_law_J678 hkH hkE1110 x1 x2 x3 x4 x5 x6 x7 x8 x9 x12 x13 x14 h) (And.intro rfl (And.intro rfl (And.intro rfl (And.intro rfl (And.intro rfl (And.intro rfl (And.intro rfl (And.intro rfl (And.intro rfl (And.intro rfl (And.intro rfl (And.intro rfl (And.intro rfl trivial)))))))))))))
    · refine Y.op (pc' := 671) (fun _ => X.aloadn rfl dL_law_670) ?_
      refine Y.getR fd_L_189 rfl dL_law_671 (fun v1 => ?_)
      refine Y.op (pc' := 676) (fun _ => X.iload rfl dL_law_674) ?_
      refine Y.op (pc' := 677) (fun _ => X.ic ki_m1 dL_law_676) ?_
      refine Y.astI dL_law_677 (fun h2 => ?_)
      exact Y.fg (y_L_law_J678 hkH hkE1110 x1 x2 x3 x4 x5 x6 x7 x8 x9 x12 x13 x14 h2) (And.intro rfl (And.intro rfl (And.intro rfl (And.intro rfl (And.intro rfl (And.intro rfl (And.intro rfl (And.intro rfl (And.intro rfl (And.intro rfl (And.intro rfl (And.intro rfl (And.intro rfl trivial)))))))))))))
  · refine Y.op (pc' := 655) (fun _ => X.aloadn rfl dL_law_654) ?_
    refine Y.getR fd_L_189 rfl dL_law_655 (fun v3 => ?_)
    refine Y.op (pc' := 660) (fun _ => X.iload rfl dL_law_658) ?_
    refine Y.op (pc' := 661) (fun _ => X.ic ki_m1 dL_law_660) ?_
    refine Y.astI dL_law_661 (fun h4 => ?_)
    refine Y.op (pc' := 678) (fun _ => X.goto 678 (by decide) dL_law_662) ?_
    exact Y.fg (y_L_law_J678 hkH hkE1110 x1 x2 x3 x4 x5 x6 x7 x8 x9 x12 x13 x14 h4) (And.intro rfl (And.intro rfl (And.intro rfl (And.intro rfl (And.intro rfl (And.intro rfl (And.intro rfl (And.intro rfl (And.intro rfl (And.intro rfl (And.intro rfl (And.intro rfl (And.intro rfl trivial)))))))))))))
def f_L_law_J608 (S : List Int32) (kH : Nat → Nat → Nat → Nat → Int32 → Int32 → Int32 → xH → Option (Int32 × xH)) (kE1110 : Nat → Nat → Int32 → xH → Option (Int32 × xH)) (x1 : Nat) (x2 : Nat) (x3 : Nat) (x4 : Nat) (x5 : Int32) (x7 : Int32) (x8 : Int32) (x9 : Int32) (x10 : Int32) (x12 : Nat) (x13 : Int32) (x14 : Int32) (x16 : Int32) (x17 : Int32) (x18 : Int32) (s0 : Int32) (h : xH) : Option (Int32 × xH) :=
  if x13 = (0 : Int32) then
    f_L_law_J678 S (kH) kE1110 x1 x2 x3 x4 x5 s0 x7 x8 x9 x12 x13 x14 h
  else
    if x16 = (0 : Int32) then
      (gI h 10 x3 4).bind fun v1 =>
      (pI h 10 x3 4 (v1 ^^^ ((1 : Int32) <<< (x17 &&& 31)))).bind fun h2 =>
      f_L_law_J649 S (kH) kE1110 x1 x2 x3 x4 x5 s0 x7 x8 x9 x10 x12 x13 x14 x16 x18 h2
    else
      (gI h 10 x3 3).bind fun v3 =>
      (pI h 10 x3 3 (v3 ^^^ ((1 : Int32) <<< (x17 &&& 31)))).bind fun h4 =>
      f_L_law_J649 S (kH) kE1110 x1 x2 x3 x4 x5 s0 x7 x8 x9 x10 x12 x13 x14 x16 x18 h4
theorem y_L_law_J608 {g : xG} {h0 : xH} {kH : Nat → Nat → Nat → Nat → Int32 → Int32 → Int32 → xH → Option (Int32 × xH)} {kE1110 : Nat → Nat → Int32 → xH → Option (Int32 × xH)} (hkH : ∀ (x1 : Nat) (x2 : Nat) (x3 : Nat) (x4 : Nat) (x5 : Int32) (x6 : Int32) (x7 : Int32) (h : xH), Y g DL_law h0 false iI (kH x1 x2 x3 x4 x5 x6 x7 h) 37 [some (.ref 1000000), some (.ref x1), some (.ref x2), some (.ref x3), some (.ref x4), some (.int x5), some (.int x6), some (.int x7), none, none, none, none, none, none, none, none, none, none, none] [] h) (hkE1110 : ∀ (x1 : Nat) (x3 : Nat) (x6 : Int32) (h : xH), Y g DL_law h0 false iI (kE1110 x1 x3 x6 h) 1110 [none, some (.ref x1), none, some (.ref x3), none, none, some (.int x6), none, none, none, none, none, none, none, none, none, none, none, none] [] h) (x1 : Nat) (x2 : Nat) (x3 : Nat) (x4 : Nat) (x5 : Int32) (x7 : Int32) (x8 : Int32) (x9 : Int32) (x10 : Int32) (x12 : Nat) (x13 : Int32) (x14 : Int32) (x16 : Int32) (x17 : Int32) (x18 : Int32) (s0 : Int32) (h : xH) : Y g DL_law h0 false iI (f_L_law_J608 (gX g) kH kE1110 x1 x2 x3 x4 x5 x7 x8 x9 x10 x12 x13 x14 x16 x17 x18 s0 h) 608 [some (.ref 1000000), some (.ref x1), some (.ref x2), some (.ref x3), some (.ref x4), some (.int x5), none, some (.int x7), some (.int x8), some (.int x9), some (.int x10), none, some (.ref x12), some (.int x13), some (.int x14), none, some (.int x16), some (.int x17), some (.int x18)] [.int s0] h := by
  unfold f_L_law_J608
  refine Y.op (pc' := 610) (loc' := [some (.ref 1000000), some (.ref x1), some (.ref x2), some (.ref x3), some (.ref x4), some (.int x5), some (.int s0), some (.int x7), some (.int x8), some (.int x9), some (.int x10), none, some (.ref x12), some (.int x13), some (.int x14), none, some (.int x16), some (.int x17), some (.int x18)]) (fun _ => X.istore (Nat.le_of_ble_eq_true rfl) rfl dL_law_608) ?_
  refine Y.op (pc' := 612) (fun _ => X.iload rfl dL_law_610) ?_
  refine Y.ifeq 678 (by decide) dL_law_612 ?_ ?_
  · exact Y.fg (y_L_law_J678 hkH hkE1110 x1 x2 x3 x4 x5 s0 x7 x8 x9 x12 x13 x14 h) (And.intro rfl (And.intro rfl (And.intro rfl (And.intro rfl (And.intro rfl (And.intro rfl (And.intro rfl (And.intro rfl (And.intro rfl (And.intro rfl (And.intro rfl (And.intro rfl (And.intro rfl trivial)))))))))))))
  · refine Y.op (pc' := 617) (fun _ => X.iload rfl dL_law_615) ?_
    refine Y.ifeq 636 (by decide) dL_law_617 ?_ ?_
    · refine Y.op (pc' := 637) (fun _ => X.aloadn rfl dL_law_636) ?_
      refine Y.op (pc' := 638) (fun _ => X.dup rfl dL_law_637) ?_
      refine Y.getI fd_L_150 rfl dL_law_638 (fun v1 => ?_)
      refine Y.op (pc' := 642) (fun _ => X.ic ki_1 dL_law_641) ?_
      refine Y.op (pc' := 644) (fun _ => X.iload rfl dL_law_642) ?_
      refine Y.op (pc' := 645) (fun _ => X.ishl dL_law_644) ?_
      refine Y.op (pc' := 646) (fun _ => X.ixor dL_law_645) ?_
      refine Y.putI fd_L_150 rfl dL_law_646 (fun h2 => ?_)
      exact Y.fg (y_L_law_J649 hkH hkE1110 x1 x2 x3 x4 x5 s0 x7 x8 x9 x10 x12 x13 x14 x16 x18 h2) (And.intro rfl (And.intro rfl (And.intro rfl (And.intro rfl (And.intro rfl (And.intro rfl (And.intro rfl (And.intro rfl (And.intro rfl (And.intro rfl (And.intro rfl (And.intro rfl (And.intro rfl (And.intro rfl (And.intro rfl (And.intro rfl trivial))))))))))))))))
    · refine Y.op (pc' := 621) (fun _ => X.aloadn rfl dL_law_620) ?_
      refine Y.op (pc' := 622) (fun _ => X.dup rfl dL_law_621) ?_
      refine Y.getI fd_L_147 rfl dL_law_622 (fun v3 => ?_)
      refine Y.op (pc' := 626) (fun _ => X.ic ki_1 dL_law_625) ?_
      refine Y.op (pc' := 628) (fun _ => X.iload rfl dL_law_626) ?_
      refine Y.op (pc' := 629) (fun _ => X.ishl dL_law_628) ?_
      refine Y.op (pc' := 630) (fun _ => X.ixor dL_law_629) ?_
      refine Y.putI fd_L_147 rfl dL_law_630 (fun h4 => ?_)
      refine Y.op (pc' := 649) (fun _ => X.goto 649 (by decide) dL_law_633) ?_
      exact Y.fg (y_L_law_J649 hkH hkE1110 x1 x2 x3 x4 x5 s0 x7 x8 x9 x10 x12 x13 x14 x16 x18 h4) (And.intro rfl (And.intro rfl (And.intro rfl (And.intro rfl (And.intro rfl (And.intro rfl (And.intro rfl (And.intro rfl (And.intro rfl (And.intro rfl (And.intro rfl (And.intro rfl (And.intro rfl (And.intro rfl (And.intro rfl (And.intro rfl trivial))))))))))))))))
def f_L_law_J600 (S : List Int32) (kH : Nat → Nat → Nat → Nat → Int32 → Int32 → Int32 → xH → Option (Int32 × xH)) (kE1110 : Nat → Nat → Int32 → xH → Option (Int32 × xH)) (x1 : Nat) (x2 : Nat) (x3 : Nat) (x4 : Nat) (x5 : Int32) (x7 : Int32) (x8 : Int32) (x9 : Int32) (x10 : Int32) (x12 : Nat) (x13 : Int32) (x14 : Int32) (x16 : Int32) (x17 : Int32) (x18 : Int32) (s0 : Int32) (s1 : Int32) (h : xH) : Option (Int32 × xH) :=
  if s0 = s1 then
    f_L_law_J608 S (kH) kE1110 x1 x2 x3 x4 x5 x7 x8 x9 x10 x12 x13 x14 x16 x17 x18 (1 : Int32) h
  else
    f_L_law_J608 S (kH) kE1110 x1 x2 x3 x4 x5 x7 x8 x9 x10 x12 x13 x14 x16 x17 x18 (0 : Int32) h
theorem y_L_law_J600 {g : xG} {h0 : xH} {kH : Nat → Nat → Nat → Nat → Int32 → Int32 → Int32 → xH → Option (Int32 × xH)} {kE1110 : Nat → Nat → Int32 → xH → Option (Int32 × xH)} (hkH : ∀ (x1 : Nat) (x2 : Nat) (x3 : Nat) (x4 : Nat) (x5 : Int32) (x6 : Int32) (x7 : Int32) (h : xH), Y g DL_law h0 false iI (kH x1 x2 x3 x4 x5 x6 x7 h) 37 [some (.ref 1000000), some (.ref x1), some (.ref x2), some (.ref x3), some (.ref x4), some (.int x5), some (.int x6), some (.int x7), none, none, none, none, none, none, none, none, none, none, none] [] h) (hkE1110 : ∀ (x1 : Nat) (x3 : Nat) (x6 : Int32) (h : xH), Y g DL_law h0 false iI (kE1110 x1 x3 x6 h) 1110 [none, some (.ref x1), none, some (.ref x3), none, none, some (.int x6), none, none, none, none, none, none, none, none, none, none, none, none] [] h) (x1 : Nat) (x2 : Nat) (x3 : Nat) (x4 : Nat) (x5 : Int32) (x7 : Int32) (x8 : Int32) (x9 : Int32) (x10 : Int32) (x12 : Nat) (x13 : Int32) (x14 : Int32) (x16 : Int32) (x17 : Int32) (x18 : Int32) (s0 : Int32) (s1 : Int32) (h : xH) : Y g DL_law h0 false iI (f_L_law_J600 (gX g) kH kE1110 x1 x2 x3 x4 x5 x7 x8 x9 x10 x12 x13 x14 x16 x17 x18 s0 s1 h) 600 [some (.ref 1000000), some (.ref x1), some (.ref x2), some (.ref x3), some (.ref x4), some (.int x5), none, some (.int x7), some (.int x8), some (.int x9), some (.int x10), none, some (.ref x12), some (.int x13), some (.int x14), none, some (.int x16), some (.int x17), some (.int x18)] [.int s1, .int s0] h := by
  unfold f_L_law_J600
  refine Y.cmpne 607 (by decide) dL_law_600 ?_ ?_
  · refine Y.op (pc' := 608) (fun _ => X.ic ki_0 dL_law_607) ?_
    exact y_L_law_J608 hkH hkE1110 x1 x2 x3 x4 x5 x7 x8 x9 x10 x12 x13 x14 x16 x17 x18 (0 : Int32) h
  · refine Y.op (pc' := 604) (fun _ => X.ic ki_1 dL_law_603) ?_
    refine Y.op (pc' := 608) (fun _ => X.goto 608 (by decide) dL_law_604) ?_
    exact y_L_law_J608 hkH hkE1110 x1 x2 x3 x4 x5 x7 x8 x9 x10 x12 x13 x14 x16 x17 x18 (1 : Int32) h
def f_L_law_J571 (S : List Int32) (kH : Nat → Nat → Nat → Nat → Int32 → Int32 → Int32 → xH → Option (Int32 × xH)) (kE1110 : Nat → Nat → Int32 → xH → Option (Int32 × xH)) (x1 : Nat) (x2 : Nat) (x3 : Nat) (x4 : Nat) (x5 : Int32) (x7 : Int32) (x8 : Int32) (x9 : Int32) (x10 : Int32) (x12 : Nat) (x13 : Int32) (x14 : Int32) (x15 : Int32) (x16 : Int32) (x17 : Int32) (x18 : Int32) (s0 : Nat) (s1 : Int32) (h : xH) : Option (Int32 × xH) :=
  (f_L_is s0 s1 x17 x15 h).bind fun r1 =>
  if x13 = (0 : Int32) then
    f_L_law_J600 S (kH) kE1110 x1 x2 x3 x4 x5 x7 x8 x9 x10 x12 x13 x14 x16 x17 x18 r1.1 (-2000000098 : Int32) r1.2
  else
    if x15 = (1 : Int32) then
      f_L_law_J600 S (kH) kE1110 x1 x2 x3 x4 x5 x7 x8 x9 x10 x12 x13 x14 x16 x17 x18 r1.1 (-1 : Int32) r1.2
    else
      f_L_law_J600 S (kH) kE1110 x1 x2 x3 x4 x5 x7 x8 x9 x10 x12 x13 x14 x16 x17 x18 r1.1 x18 r1.2
theorem y_L_law_J571 {g : xG} {h0 : xH} {kH : Nat → Nat → Nat → Nat → Int32 → Int32 → Int32 → xH → Option (Int32 × xH)} {kE1110 : Nat → Nat → Int32 → xH → Option (Int32 × xH)} (hkH : ∀ (x1 : Nat) (x2 : Nat) (x3 : Nat) (x4 : Nat) (x5 : Int32) (x6 : Int32) (x7 : Int32) (h : xH), Y g DL_law h0 false iI (kH x1 x2 x3 x4 x5 x6 x7 h) 37 [some (.ref 1000000), some (.ref x1), some (.ref x2), some (.ref x3), some (.ref x4), some (.int x5), some (.int x6), some (.int x7), none, none, none, none, none, none, none, none, none, none, none] [] h) (hkE1110 : ∀ (x1 : Nat) (x3 : Nat) (x6 : Int32) (h : xH), Y g DL_law h0 false iI (kE1110 x1 x3 x6 h) 1110 [none, some (.ref x1), none, some (.ref x3), none, none, some (.int x6), none, none, none, none, none, none, none, none, none, none, none, none] [] h) (x1 : Nat) (x2 : Nat) (x3 : Nat) (x4 : Nat) (x5 : Int32) (x7 : Int32) (x8 : Int32) (x9 : Int32) (x10 : Int32) (x12 : Nat) (x13 : Int32) (x14 : Int32) (x15 : Int32) (x16 : Int32) (x17 : Int32) (x18 : Int32) (s0 : Nat) (s1 : Int32) (h : xH) : Y g DL_law h0 false iI (f_L_law_J571 (gX g) kH kE1110 x1 x2 x3 x4 x5 x7 x8 x9 x10 x12 x13 x14 x15 x16 x17 x18 s0 s1 h) 571 [some (.ref 1000000), some (.ref x1), some (.ref x2), some (.ref x3), some (.ref x4), some (.int x5), none, some (.int x7), some (.int x8), some (.int x9), some (.int x10), none, some (.ref x12), some (.int x13), some (.int x14), some (.int x15), some (.int x16), some (.int x17), some (.int x18)] [.int s1, .ref s0] h := by
  unfold f_L_law_J571
  refine Y.op (pc' := 573) (fun _ => X.iload rfl dL_law_571) ?_
  refine Y.op (pc' := 575) (fun _ => X.iload rfl dL_law_573) ?_
  refine Y.callSWi (As := [.ref s0, .int s1, .int x17, .int x15]) lkw_L_is rfl calw_L_is staw_L_is (Nat.le_of_ble_eq_true rfl) rfl rfl (Nat.le_of_ble_eq_true rfl) dL_law_575 (fun _ e => m_L_is s0 s1 x17 x15 h _ e) (fun r1 => ?_)
  refine Y.op (pc' := 580) (fun _ => X.iload rfl dL_law_578) ?_
  refine Y.ifeq 598 (by decide) dL_law_580 ?_ ?_
  · refine Y.op (pc' := 600) (fun _ => X.ldcI wc_L_35 rfl dL_law_598) ?_
    exact Y.fg (y_L_law_J600 hkH hkE1110 x1 x2 x3 x4 x5 x7 x8 x9 x10 x12 x13 x14 x16 x17 x18 r1.1 (-2000000098 : Int32) r1.2) (And.intro rfl (And.intro rfl (And.intro rfl (And.intro rfl (And.intro rfl (And.intro rfl (And.intro rfl (And.intro rfl (And.intro rfl (And.intro rfl (And.intro rfl (And.intro rfl (And.intro rfl (And.intro rfl (And.intro rfl (And.intro rfl trivial))))))))))))))))
  · refine Y.op (pc' := 585) (fun _ => X.iload rfl dL_law_583) ?_
    refine Y.op (pc' := 586) (fun _ => X.ic ki_1 dL_law_585) ?_
    refine Y.cmpne 593 (by decide) dL_law_586 ?_ ?_
    · refine Y.op (pc' := 595) (fun _ => X.iload rfl dL_law_593) ?_
      refine Y.op (pc' := 600) (fun _ => X.goto 600 (by decide) dL_law_595) ?_
      exact Y.fg (y_L_law_J600 hkH hkE1110 x1 x2 x3 x4 x5 x7 x8 x9 x10 x12 x13 x14 x16 x17 x18 r1.1 x18 r1.2) (And.intro rfl (And.intro rfl (And.intro rfl (And.intro rfl (And.intro rfl (And.intro rfl (And.intro rfl (And.intro rfl (And.intro rfl (And.intro rfl (And.intro rfl (And.intro rfl (And.intro rfl (And.intro rfl (And.intro rfl (And.intro rfl trivial))))))))))))))))
    · refine Y.op (pc' := 590) (fun _ => X.ic ki_m1 dL_law_589) ?_
      refine Y.op (pc' := 600) (fun _ => X.goto 600 (by decide) dL_law_590) ?_
      exact Y.fg (y_L_law_J600 hkH hkE1110 x1 x2 x3 x4 x5 x7 x8 x9 x10 x12 x13 x14 x16 x17 x18 r1.1 (-1 : Int32) r1.2) (And.intro rfl (And.intro rfl (And.intro rfl (And.intro rfl (And.intro rfl (And.intro rfl (And.intro rfl (And.intro rfl (And.intro rfl (And.intro rfl (And.intro rfl (And.intro rfl (And.intro rfl (And.intro rfl (And.intro rfl (And.intro rfl trivial))))))))))))))))
def f_L_law_J558 (S : List Int32) (kH : Nat → Nat → Nat → Nat → Int32 → Int32 → Int32 → xH → Option (Int32 × xH)) (kE1110 : Nat → Nat → Int32 → xH → Option (Int32 × xH)) (x1 : Nat) (x2 : Nat) (x3 : Nat) (x4 : Nat) (x5 : Int32) (x7 : Int32) (x8 : Int32) (x9 : Int32) (x10 : Int32) (x12 : Nat) (x14 : Int32) (x15 : Int32) (x16 : Int32) (x17 : Int32) (x18 : Int32) (s0 : Int32) (h : xH) : Option (Int32 × xH) :=
  if x16 = (0 : Int32) then
    f_L_law_J571 S (kH) kE1110 x1 x2 x3 x4 x5 x7 x8 x9 x10 x12 s0 x14 x15 x16 x17 x18 x1 (1 : Int32) h
  else
    f_L_law_J571 S (kH) kE1110 x1 x2 x3 x4 x5 x7 x8 x9 x10 x12 s0 x14 x15 x16 x17 x18 x1 (0 : Int32) h
theorem y_L_law_J558 {g : xG} {h0 : xH} {kH : Nat → Nat → Nat → Nat → Int32 → Int32 → Int32 → xH → Option (Int32 × xH)} {kE1110 : Nat → Nat → Int32 → xH → Option (Int32 × xH)} (hkH : ∀ (x1 : Nat) (x2 : Nat) (x3 : Nat) (x4 : Nat) (x5 : Int32) (x6 : Int32) (x7 : Int32) (h : xH), Y g DL_law h0 false iI (kH x1 x2 x3 x4 x5 x6 x7 h) 37 [some (.ref 1000000), some (.ref x1), some (.ref x2), some (.ref x3), some (.ref x4), some (.int x5), some (.int x6), some (.int x7), none, none, none, none, none, none, none, none, none, none, none] [] h) (hkE1110 : ∀ (x1 : Nat) (x3 : Nat) (x6 : Int32) (h : xH), Y g DL_law h0 false iI (kE1110 x1 x3 x6 h) 1110 [none, some (.ref x1), none, some (.ref x3), none, none, some (.int x6), none, none, none, none, none, none, none, none, none, none, none, none] [] h) (x1 : Nat) (x2 : Nat) (x3 : Nat) (x4 : Nat) (x5 : Int32) (x7 : Int32) (x8 : Int32) (x9 : Int32) (x10 : Int32) (x12 : Nat) (x14 : Int32) (x15 : Int32) (x16 : Int32) (x17 : Int32) (x18 : Int32) (s0 : Int32) (h : xH) : Y g DL_law h0 false iI (f_L_law_J558 (gX g) kH kE1110 x1 x2 x3 x4 x5 x7 x8 x9 x10 x12 x14 x15 x16 x17 x18 s0 h) 558 [some (.ref 1000000), some (.ref x1), some (.ref x2), some (.ref x3), some (.ref x4), some (.int x5), none, some (.int x7), some (.int x8), some (.int x9), some (.int x10), none, some (.ref x12), none, some (.int x14), some (.int x15), some (.int x16), some (.int x17), some (.int x18)] [.int s0] h := by
  unfold f_L_law_J558
  refine Y.op (pc' := 560) (loc' := [some (.ref 1000000), some (.ref x1), some (.ref x2), some (.ref x3), some (.ref x4), some (.int x5), none, some (.int x7), some (.int x8), some (.int x9), some (.int x10), none, some (.ref x12), some (.int s0), some (.int x14), some (.int x15), some (.int x16), some (.int x17), some (.int x18)]) (fun _ => X.istore (Nat.le_of_ble_eq_true rfl) rfl dL_law_558) ?_
  refine Y.op (pc' := 561) (fun _ => X.aloadn rfl dL_law_560) ?_
  refine Y.op (pc' := 563) (fun _ => X.iload rfl dL_law_561) ?_
  refine Y.ifeq 570 (by decide) dL_law_563 ?_ ?_
  · refine Y.op (pc' := 571) (fun _ => X.ic ki_1 dL_law_570) ?_
    exact y_L_law_J571 hkH hkE1110 x1 x2 x3 x4 x5 x7 x8 x9 x10 x12 s0 x14 x15 x16 x17 x18 x1 (1 : Int32) h
  · refine Y.op (pc' := 567) (fun _ => X.ic ki_0 dL_law_566) ?_
    refine Y.op (pc' := 571) (fun _ => X.goto 571 (by decide) dL_law_567) ?_
    exact y_L_law_J571 hkH hkE1110 x1 x2 x3 x4 x5 x7 x8 x9 x10 x12 s0 x14 x15 x16 x17 x18 x1 (0 : Int32) h
def f_L_law_J543 (S : List Int32) (kH : Nat → Nat → Nat → Nat → Int32 → Int32 → Int32 → xH → Option (Int32 × xH)) (kE1110 : Nat → Nat → Int32 → xH → Option (Int32 × xH)) (x1 : Nat) (x2 : Nat) (x3 : Nat) (x4 : Nat) (x5 : Int32) (x7 : Int32) (x8 : Int32) (x9 : Int32) (x10 : Int32) (x12 : Nat) (x14 : Int32) (x15 : Int32) (x16 : Int32) (x17 : Int32) (x18 : Int32) (s0 : Int32) (h : xH) : Option (Int32 × xH) :=
  if ((s0 >>> (x17 &&& 31)) &&& (1 : Int32)) = x15 then
    f_L_law_J558 S (kH) kE1110 x1 x2 x3 x4 x5 x7 x8 x9 x10 x12 x14 x15 x16 x17 x18 (0 : Int32) h
  else
    f_L_law_J558 S (kH) kE1110 x1 x2 x3 x4 x5 x7 x8 x9 x10 x12 x14 x15 x16 x17 x18 (1 : Int32) h
theorem y_L_law_J543 {g : xG} {h0 : xH} {kH : Nat → Nat → Nat → Nat → Int32 → Int32 → Int32 → xH → Option (Int32 × xH)} {kE1110 : Nat → Nat → Int32 → xH → Option (Int32 × xH)} (hkH : ∀ (x1 : Nat) (x2 : Nat) (x3 : Nat) (x4 : Nat) (x5 : Int32) (x6 : Int32) (x7 : Int32) (h : xH), Y g DL_law h0 false iI (kH x1 x2 x3 x4 x5 x6 x7 h) 37 [some (.ref 1000000), some (.ref x1), some (.ref x2), some (.ref x3), some (.ref x4), some (.int x5), some (.int x6), some (.int x7), none, none, none, none, none, none, none, none, none, none, none] [] h) (hkE1110 : ∀ (x1 : Nat) (x3 : Nat) (x6 : Int32) (h : xH), Y g DL_law h0 false iI (kE1110 x1 x3 x6 h) 1110 [none, some (.ref x1), none, some (.ref x3), none, none, some (.int x6), none, none, none, none, none, none, none, none, none, none, none, none] [] h) (x1 : Nat) (x2 : Nat) (x3 : Nat) (x4 : Nat) (x5 : Int32) (x7 : Int32) (x8 : Int32) (x9 : Int32) (x10 : Int32) (x12 : Nat) (x14 : Int32) (x15 : Int32) (x16 : Int32) (x17 : Int32) (x18 : Int32) (s0 : Int32) (h : xH) : Y g DL_law h0 false iI (f_L_law_J543 (gX g) kH kE1110 x1 x2 x3 x4 x5 x7 x8 x9 x10 x12 x14 x15 x16 x17 x18 s0 h) 543 [some (.ref 1000000), some (.ref x1), some (.ref x2), some (.ref x3), some (.ref x4), some (.int x5), none, some (.int x7), some (.int x8), some (.int x9), some (.int x10), none, some (.ref x12), none, some (.int x14), some (.int x15), some (.int x16), some (.int x17), some (.int x18)] [.int s0] h := by
  unfold f_L_law_J543
  refine Y.op (pc' := 545) (fun _ => X.iload rfl dL_law_543) ?_
  refine Y.op (pc' := 546) (fun _ => X.ishr dL_law_545) ?_
  refine Y.op (pc' := 547) (fun _ => X.ic ki_1 dL_law_546) ?_
  refine Y.op (pc' := 548) (fun _ => X.iand dL_law_547) ?_
  refine Y.op (pc' := 550) (fun _ => X.iload rfl dL_law_548) ?_
  refine Y.cmpeq 557 (by decide) dL_law_550 ?_ ?_
  · refine Y.op (pc' := 558) (fun _ => X.ic ki_0 dL_law_557) ?_
    exact y_L_law_J558 hkH hkE1110 x1 x2 x3 x4 x5 x7 x8 x9 x10 x12 x14 x15 x16 x17 x18 (0 : Int32) h
  · refine Y.op (pc' := 554) (fun _ => X.ic ki_1 dL_law_553) ?_
    refine Y.op (pc' := 558) (fun _ => X.goto 558 (by decide) dL_law_554) ?_
    exact y_L_law_J558 hkH hkE1110 x1 x2 x3 x4 x5 x7 x8 x9 x10 x12 x14 x15 x16 x17 x18 (1 : Int32) h
def f_L_law_J525 (S : List Int32) (kH : Nat → Nat → Nat → Nat → Int32 → Int32 → Int32 → xH → Option (Int32 × xH)) (kE1110 : Nat → Nat → Int32 → xH → Option (Int32 × xH)) (x1 : Nat) (x2 : Nat) (x3 : Nat) (x4 : Nat) (x5 : Int32) (x7 : Int32) (x8 : Int32) (x9 : Int32) (x10 : Int32) (x12 : Nat) (x14 : Int32) (x15 : Int32) (x16 : Int32) (x17 : Int32) (s0 : Int32) (h : xH) : Option (Int32 × xH) :=
  if x16 = (0 : Int32) then
    (gI h 10 x3 4).bind fun v1 =>
    f_L_law_J543 S (kH) kE1110 x1 x2 x3 x4 x5 x7 x8 x9 x10 x12 x14 x15 x16 x17 s0 v1 h
  else
    (gI h 10 x3 3).bind fun v2 =>
    f_L_law_J543 S (kH) kE1110 x1 x2 x3 x4 x5 x7 x8 x9 x10 x12 x14 x15 x16 x17 s0 v2 h
theorem y_L_law_J525 {g : xG} {h0 : xH} {kH : Nat → Nat → Nat → Nat → Int32 → Int32 → Int32 → xH → Option (Int32 × xH)} {kE1110 : Nat → Nat → Int32 → xH → Option (Int32 × xH)} (hkH : ∀ (x1 : Nat) (x2 : Nat) (x3 : Nat) (x4 : Nat) (x5 : Int32) (x6 : Int32) (x7 : Int32) (h : xH), Y g DL_law h0 false iI (kH x1 x2 x3 x4 x5 x6 x7 h) 37 [some (.ref 1000000), some (.ref x1), some (.ref x2), some (.ref x3), some (.ref x4), some (.int x5), some (.int x6), some (.int x7), none, none, none, none, none, none, none, none, none, none, none] [] h) (hkE1110 : ∀ (x1 : Nat) (x3 : Nat) (x6 : Int32) (h : xH), Y g DL_law h0 false iI (kE1110 x1 x3 x6 h) 1110 [none, some (.ref x1), none, some (.ref x3), none, none, some (.int x6), none, none, none, none, none, none, none, none, none, none, none, none] [] h) (x1 : Nat) (x2 : Nat) (x3 : Nat) (x4 : Nat) (x5 : Int32) (x7 : Int32) (x8 : Int32) (x9 : Int32) (x10 : Int32) (x12 : Nat) (x14 : Int32) (x15 : Int32) (x16 : Int32) (x17 : Int32) (s0 : Int32) (h : xH) : Y g DL_law h0 false iI (f_L_law_J525 (gX g) kH kE1110 x1 x2 x3 x4 x5 x7 x8 x9 x10 x12 x14 x15 x16 x17 s0 h) 525 [some (.ref 1000000), some (.ref x1), some (.ref x2), some (.ref x3), some (.ref x4), some (.int x5), none, some (.int x7), some (.int x8), some (.int x9), some (.int x10), none, some (.ref x12), none, some (.int x14), some (.int x15), some (.int x16), some (.int x17), none] [.int s0] h := by
  unfold f_L_law_J525
  refine Y.op (pc' := 527) (loc' := [some (.ref 1000000), some (.ref x1), some (.ref x2), some (.ref x3), some (.ref x4), some (.int x5), none, some (.int x7), some (.int x8), some (.int x9), some (.int x10), none, some (.ref x12), none, some (.int x14), some (.int x15), some (.int x16), some (.int x17), some (.int s0)]) (fun _ => X.istore (Nat.le_of_ble_eq_true rfl) rfl dL_law_525) ?_
  refine Y.op (pc' := 529) (fun _ => X.iload rfl dL_law_527) ?_
  refine Y.ifeq 539 (by decide) dL_law_529 ?_ ?_
  · refine Y.op (pc' := 540) (fun _ => X.aloadn rfl dL_law_539) ?_
    refine Y.getI fd_L_150 rfl dL_law_540 (fun v1 => ?_)
    exact y_L_law_J543 hkH hkE1110 x1 x2 x3 x4 x5 x7 x8 x9 x10 x12 x14 x15 x16 x17 s0 v1 h
  · refine Y.op (pc' := 533) (fun _ => X.aloadn rfl dL_law_532) ?_
    refine Y.getI fd_L_147 rfl dL_law_533 (fun v2 => ?_)
    refine Y.op (pc' := 543) (fun _ => X.goto 543 (by decide) dL_law_536) ?_
    exact y_L_law_J543 hkH hkE1110 x1 x2 x3 x4 x5 x7 x8 x9 x10 x12 x14 x15 x16 x17 s0 v2 h
def f_L_law_J502 (S : List Int32) (kH : Nat → Nat → Nat → Nat → Int32 → Int32 → Int32 → xH → Option (Int32 × xH)) (kE1110 : Nat → Nat → Int32 → xH → Option (Int32 × xH)) (x1 : Nat) (x2 : Nat) (x3 : Nat) (x4 : Nat) (x5 : Int32) (x7 : Int32) (x8 : Int32) (x9 : Int32) (x10 : Int32) (x11 : Int32) (x12 : Nat) (x14 : Int32) (x15 : Int32) (x16 : Int32) (s0 : Int32) (h : xH) : Option (Int32 × xH) :=
  if x16 = (0 : Int32) then
    (vc h 10 x3 (f_X10_owner x3 x11 h)).bind fun r1 =>
    f_L_law_J525 S (kH) kE1110 x1 x2 x3 x4 x5 x7 x8 x9 x10 x12 x14 x15 x16 s0 r1.1 r1.2
  else
    (gR h 10 x3 6).bind fun v2 =>
    (aI h v2 x10).bind fun v3 =>
    f_L_law_J525 S (kH) kE1110 x1 x2 x3 x4 x5 x7 x8 x9 x10 x12 x14 x15 x16 s0 v3 h
theorem y_L_law_J502 {g : xG} {h0 : xH} {kH : Nat → Nat → Nat → Nat → Int32 → Int32 → Int32 → xH → Option (Int32 × xH)} {kE1110 : Nat → Nat → Int32 → xH → Option (Int32 × xH)} (hkH : ∀ (x1 : Nat) (x2 : Nat) (x3 : Nat) (x4 : Nat) (x5 : Int32) (x6 : Int32) (x7 : Int32) (h : xH), Y g DL_law h0 false iI (kH x1 x2 x3 x4 x5 x6 x7 h) 37 [some (.ref 1000000), some (.ref x1), some (.ref x2), some (.ref x3), some (.ref x4), some (.int x5), some (.int x6), some (.int x7), none, none, none, none, none, none, none, none, none, none, none] [] h) (hkE1110 : ∀ (x1 : Nat) (x3 : Nat) (x6 : Int32) (h : xH), Y g DL_law h0 false iI (kE1110 x1 x3 x6 h) 1110 [none, some (.ref x1), none, some (.ref x3), none, none, some (.int x6), none, none, none, none, none, none, none, none, none, none, none, none] [] h) (x1 : Nat) (x2 : Nat) (x3 : Nat) (x4 : Nat) (x5 : Int32) (x7 : Int32) (x8 : Int32) (x9 : Int32) (x10 : Int32) (x11 : Int32) (x12 : Nat) (x14 : Int32) (x15 : Int32) (x16 : Int32) (s0 : Int32) (h : xH) : Y g DL_law h0 false iI (f_L_law_J502 (gX g) kH kE1110 x1 x2 x3 x4 x5 x7 x8 x9 x10 x11 x12 x14 x15 x16 s0 h) 502 [some (.ref 1000000), some (.ref x1), some (.ref x2), some (.ref x3), some (.ref x4), some (.int x5), none, some (.int x7), some (.int x8), some (.int x9), some (.int x10), some (.int x11), some (.ref x12), none, some (.int x14), some (.int x15), some (.int x16), none, none] [.int s0] h := by
  unfold f_L_law_J502
  refine Y.op (pc' := 504) (loc' := [some (.ref 1000000), some (.ref x1), some (.ref x2), some (.ref x3), some (.ref x4), some (.int x5), none, some (.int x7), some (.int x8), some (.int x9), some (.int x10), some (.int x11), some (.ref x12), none, some (.int x14), some (.int x15), some (.int x16), some (.int s0), none]) (fun _ => X.istore (Nat.le_of_ble_eq_true rfl) rfl dL_law_502) ?_
  refine Y.op (pc' := 506) (fun _ => X.iload rfl dL_law_504) ?_
  refine Y.ifeq 519 (by decide) dL_law_506 ?_ ?_
  · refine Y.op (pc' := 520) (fun _ => X.aloadn rfl dL_law_519) ?_
    refine Y.op (pc' := 522) (fun _ => X.iload rfl dL_law_520) ?_
    refine Y.callVi (As := [.int x11]) lk_L_186 rfl cal_X10_owner vir_X10_owner (Nat.le_of_ble_eq_true rfl) (Nat.le_of_ble_eq_true rfl) rfl rfl rfl (Nat.le_of_ble_eq_true rfl) dL_law_522 (fun _ e => m_X10_owner x3 x11 h _ e) (fun r1 => ?_)
    exact Y.fg (y_L_law_J525 hkH hkE1110 x1 x2 x3 x4 x5 x7 x8 x9 x10 x12 x14 x15 x16 s0 r1.1 r1.2) (And.intro rfl (And.intro rfl (And.intro rfl (And.intro rfl (And.intro rfl (And.intro rfl (And.intro rfl (And.intro rfl (And.intro rfl (And.intro rfl (And.intro rfl (And.intro rfl (And.intro rfl (And.intro rfl (And.intro rfl trivial)))))))))))))))
  · refine Y.op (pc' := 510) (fun _ => X.aloadn rfl dL_law_509) ?_
    refine Y.getR fd_L_189 rfl dL_law_510 (fun v2 => ?_)
    refine Y.op (pc' := 515) (fun _ => X.iload rfl dL_law_513) ?_
    refine Y.aldI dL_law_515 (fun v3 => ?_)
    refine Y.op (pc' := 525) (fun _ => X.goto 525 (by decide) dL_law_516) ?_
    exact Y.fg (y_L_law_J525 hkH hkE1110 x1 x2 x3 x4 x5 x7 x8 x9 x10 x12 x14 x15 x16 s0 v3 h) (And.intro rfl (And.intro rfl (And.intro rfl (And.intro rfl (And.intro rfl (And.intro rfl (And.intro rfl (And.intro rfl (And.intro rfl (And.intro rfl (And.intro rfl (And.intro rfl (And.intro rfl (And.intro rfl (And.intro rfl trivial)))))))))))))))
def f_L_law_J488 (S : List Int32) (kH : Nat → Nat → Nat → Nat → Int32 → Int32 → Int32 → xH → Option (Int32 × xH)) (kE1110 : Nat → Nat → Int32 → xH → Option (Int32 × xH)) (x1 : Nat) (x2 : Nat) (x3 : Nat) (x4 : Nat) (x5 : Int32) (x7 : Int32) (x8 : Int32) (x9 : Int32) (x10 : Int32) (x11 : Int32) (x12 : Nat) (x14 : Int32) (x15 : Int32) (s0 : Int32) (h : xH) : Option (Int32 × xH) :=
  if s0 = (0 : Int32) then
    f_L_law_J502 S (kH) kE1110 x1 x2 x3 x4 x5 x7 x8 x9 x10 x11 x12 x14 x15 s0 x11 h
  else
    f_L_law_J502 S (kH) kE1110 x1 x2 x3 x4 x5 x7 x8 x9 x10 x11 x12 x14 x15 s0 x10 h
theorem y_L_law_J488 {g : xG} {h0 : xH} {kH : Nat → Nat → Nat → Nat → Int32 → Int32 → Int32 → xH → Option (Int32 × xH)} {kE1110 : Nat → Nat → Int32 → xH → Option (Int32 × xH)} (hkH : ∀ (x1 : Nat) (x2 : Nat) (x3 : Nat) (x4 : Nat) (x5 : Int32) (x6 : Int32) (x7 : Int32) (h : xH), Y g DL_law h0 false iI (kH x1 x2 x3 x4 x5 x6 x7 h) 37 [some (.ref 1000000), some (.ref x1), some (.ref x2), some (.ref x3), some (.ref x4), some (.int x5), some (.int x6), some (.int x7), none, none, none, none, none, none, none, none, none, none, none] [] h) (hkE1110 : ∀ (x1 : Nat) (x3 : Nat) (x6 : Int32) (h : xH), Y g DL_law h0 false iI (kE1110 x1 x3 x6 h) 1110 [none, some (.ref x1), none, some (.ref x3), none, none, some (.int x6), none, none, none, none, none, none, none, none, none, none, none, none] [] h) (x1 : Nat) (x2 : Nat) (x3 : Nat) (x4 : Nat) (x5 : Int32) (x7 : Int32) (x8 : Int32) (x9 : Int32) (x10 : Int32) (x11 : Int32) (x12 : Nat) (x14 : Int32) (x15 : Int32) (s0 : Int32) (h : xH) : Y g DL_law h0 false iI (f_L_law_J488 (gX g) kH kE1110 x1 x2 x3 x4 x5 x7 x8 x9 x10 x11 x12 x14 x15 s0 h) 488 [some (.ref 1000000), some (.ref x1), some (.ref x2), some (.ref x3), some (.ref x4), some (.int x5), none, some (.int x7), some (.int x8), some (.int x9), some (.int x10), some (.int x11), some (.ref x12), none, some (.int x14), some (.int x15), none, none, none] [.int s0] h := by
  unfold f_L_law_J488
  refine Y.op (pc' := 490) (loc' := [some (.ref 1000000), some (.ref x1), some (.ref x2), some (.ref x3), some (.ref x4), some (.int x5), none, some (.int x7), some (.int x8), some (.int x9), some (.int x10), some (.int x11), some (.ref x12), none, some (.int x14), some (.int x15), some (.int s0), none, none]) (fun _ => X.istore (Nat.le_of_ble_eq_true rfl) rfl dL_law_488) ?_
  refine Y.op (pc' := 492) (fun _ => X.iload rfl dL_law_490) ?_
  refine Y.ifeq 500 (by decide) dL_law_492 ?_ ?_
  · refine Y.op (pc' := 502) (fun _ => X.iload rfl dL_law_500) ?_
    exact y_L_law_J502 hkH hkE1110 x1 x2 x3 x4 x5 x7 x8 x9 x10 x11 x12 x14 x15 s0 x11 h
  · refine Y.op (pc' := 497) (fun _ => X.iload rfl dL_law_495) ?_
    refine Y.op (pc' := 502) (fun _ => X.goto 502 (by decide) dL_law_497) ?_
    exact y_L_law_J502 hkH hkE1110 x1 x2 x3 x4 x5 x7 x8 x9 x10 x11 x12 x14 x15 s0 x10 h
def f_L_law_J422 (S : List Int32) (kH : Nat → Nat → Nat → Nat → Int32 → Int32 → Int32 → xH → Option (Int32 × xH)) (kE1110 : Nat → Nat → Int32 → xH → Option (Int32 × xH)) (x1 : Nat) (x2 : Nat) (x3 : Nat) (x4 : Nat) (x5 : Int32) (x7 : Int32) (x8 : Int32) (x9 : Int32) (x10 : Int32) (x11 : Int32) (x12 : Nat) (x13 : Int32) (x14 : Int32) (s0 : Int32) (h : xH) : Option (Int32 × xH) :=
  (gR h 10 x3 5).bind fun v1 =>
  (aR 102 h v1 x10).bind fun v2 =>
  (sI h v2 x11 (-1 : Int32)).bind fun h3 =>
  (gR h3 10 x3 6).bind fun v4 =>
  (aI h3 v4 x10).bind fun v5 =>
  if v5 = x11 then
    (gR h3 10 x3 6).bind fun v6 =>
    (sI h3 v6 x10 (-1 : Int32)).bind fun h7 =>
    f_L_law_J1017 S (kH) kE1110 x1 x2 x3 x4 x5 s0 x7 x8 x9 x12 x13 x14 h7
  else
    f_L_law_J1017 S (kH) kE1110 x1 x2 x3 x4 x5 s0 x7 x8 x9 x12 x13 x14 h3
theorem y_L_law_J422 {g : xG} {h0 : xH} {kH : Nat → Nat → Nat → Nat → Int32 → Int32 → Int32 → xH → Option (Int32 × xH)} {kE1110 : Nat → Nat → Int32 → xH → Option (Int32 × xH)} (hkH : ∀ (x1 : Nat) (x2 : Nat) (x3 : Nat) (x4 : Nat) (x5 : Int32) (x6 : Int32) (x7 : Int32) (h : xH), Y g DL_law h0 false iI (kH x1 x2 x3 x4 x5 x6 x7 h) 37 [some (.ref 1000000), some (.ref x1), some (.ref x2), some (.ref x3), some (.ref x4), some (.int x5), some (.int x6), some (.int x7), none, none, none, none, none, none, none, none, none, none, none] [] h) (hkE1110 : ∀ (x1 : Nat) (x3 : Nat) (x6 : Int32) (h : xH), Y g DL_law h0 false iI (kE1110 x1 x3 x6 h) 1110 [none, some (.ref x1), none, some (.ref x3), none, none, some (.int x6), none, none, none, none, none, none, none, none, none, none, none, none] [] h) (x1 : Nat) (x2 : Nat) (x3 : Nat) (x4 : Nat) (x5 : Int32) (x7 : Int32) (x8 : Int32) (x9 : Int32) (x10 : Int32) (x11 : Int32) (x12 : Nat) (x13 : Int32) (x14 : Int32) (s0 : Int32) (h : xH) : Y g DL_law h0 false iI (f_L_law_J422 (gX g) kH kE1110 x1 x2 x3 x4 x5 x7 x8 x9 x10 x11 x12 x13 x14 s0 h) 422 [some (.ref 1000000), some (.ref x1), some (.ref x2), some (.ref x3), some (.ref x4), some (.int x5), none, some (.int x7), some (.int x8), some (.int x9), some (.int x10), some (.int x11), some (.ref x12), some (.int x13), some (.int x14), none, none, none, none] [.int s0] h := by
  unfold f_L_law_J422
  refine Y.op (pc' := 424) (loc' := [some (.ref 1000000), some (.ref x1), some (.ref x2), some (.ref x3), some (.ref x4), some (.int x5), some (.int s0), some (.int x7), some (.int x8), some (.int x9), some (.int x10), some (.int x11), some (.ref x12), some (.int x13), some (.int x14), none, none, none, none]) (fun _ => X.istore (Nat.le_of_ble_eq_true rfl) rfl dL_law_422) ?_
  refine Y.op (pc' := 425) (fun _ => X.aloadn rfl dL_law_424) ?_
  refine Y.getR fd_L_171 rfl dL_law_425 (fun v1 => ?_)
  refine Y.op (pc' := 430) (fun _ => X.iload rfl dL_law_428) ?_
  refine Y.aldR 102 (by decide) (by decide) dL_law_430 (fun v2 => ?_)
  refine Y.op (pc' := 433) (fun _ => X.iload rfl dL_law_431) ?_
  refine Y.op (pc' := 434) (fun _ => X.ic ki_m1 dL_law_433) ?_
  refine Y.astI dL_law_434 (fun h3 => ?_)
  refine Y.op (pc' := 436) (fun _ => X.aloadn rfl dL_law_435) ?_
  refine Y.getR fd_L_189 rfl dL_law_436 (fun v4 => ?_)
  refine Y.op (pc' := 441) (fun _ => X.iload rfl dL_law_439) ?_
  refine Y.aldI dL_law_441 (fun v5 => ?_)
  refine Y.op (pc' := 444) (fun _ => X.iload rfl dL_law_442) ?_
  refine Y.cmpne 1017 (by decide) dL_law_444 ?_ ?_
  · exact Y.fg (y_L_law_J1017 hkH hkE1110 x1 x2 x3 x4 x5 s0 x7 x8 x9 x12 x13 x14 h3) (And.intro rfl (And.intro rfl (And.intro rfl (And.intro rfl (And.intro rfl (And.intro rfl (And.intro rfl (And.intro rfl (And.intro rfl (And.intro rfl (And.intro rfl (And.intro rfl (And.intro rfl trivial)))))))))))))
  · refine Y.op (pc' := 448) (fun _ => X.aloadn rfl dL_law_447) ?_
    refine Y.getR fd_L_189 rfl dL_law_448 (fun v6 => ?_)
    refine Y.op (pc' := 453) (fun _ => X.iload rfl dL_law_451) ?_
    refine Y.op (pc' := 454) (fun _ => X.ic ki_m1 dL_law_453) ?_
    refine Y.astI dL_law_454 (fun h7 => ?_)
    refine Y.op (pc' := 1017) (fun _ => X.goto 1017 (by decide) dL_law_455) ?_
    exact Y.fg (y_L_law_J1017 hkH hkE1110 x1 x2 x3 x4 x5 s0 x7 x8 x9 x12 x13 x14 h7) (And.intro rfl (And.intro rfl (And.intro rfl (And.intro rfl (And.intro rfl (And.intro rfl (And.intro rfl (And.intro rfl (And.intro rfl (And.intro rfl (And.intro rfl (And.intro rfl (And.intro rfl trivial)))))))))))))
def f_L_law_J414 (S : List Int32) (kH : Nat → Nat → Nat → Nat → Int32 → Int32 → Int32 → xH → Option (Int32 × xH)) (kE1110 : Nat → Nat → Int32 → xH → Option (Int32 × xH)) (x1 : Nat) (x2 : Nat) (x3 : Nat) (x4 : Nat) (x5 : Int32) (x7 : Int32) (x8 : Int32) (x9 : Int32) (x10 : Int32) (x11 : Int32) (x12 : Nat) (x13 : Int32) (x14 : Int32) (s0 : Int32) (s1 : Int32) (h : xH) : Option (Int32 × xH) :=
  if s0 = s1 then
    f_L_law_J422 S (kH) kE1110 x1 x2 x3 x4 x5 x7 x8 x9 x10 x11 x12 x13 x14 (1 : Int32) h
  else
    f_L_law_J422 S (kH) kE1110 x1 x2 x3 x4 x5 x7 x8 x9 x10 x11 x12 x13 x14 (0 : Int32) h
theorem y_L_law_J414 {g : xG} {h0 : xH} {kH : Nat → Nat → Nat → Nat → Int32 → Int32 → Int32 → xH → Option (Int32 × xH)} {kE1110 : Nat → Nat → Int32 → xH → Option (Int32 × xH)} (hkH : ∀ (x1 : Nat) (x2 : Nat) (x3 : Nat) (x4 : Nat) (x5 : Int32) (x6 : Int32) (x7 : Int32) (h : xH), Y g DL_law h0 false iI (kH x1 x2 x3 x4 x5 x6 x7 h) 37 [some (.ref 1000000), some (.ref x1), some (.ref x2), some (.ref x3), some (.ref x4), some (.int x5), some (.int x6), some (.int x7), none, none, none, none, none, none, none, none, none, none, none] [] h) (hkE1110 : ∀ (x1 : Nat) (x3 : Nat) (x6 : Int32) (h : xH), Y g DL_law h0 false iI (kE1110 x1 x3 x6 h) 1110 [none, some (.ref x1), none, some (.ref x3), none, none, some (.int x6), none, none, none, none, none, none, none, none, none, none, none, none] [] h) (x1 : Nat) (x2 : Nat) (x3 : Nat) (x4 : Nat) (x5 : Int32) (x7 : Int32) (x8 : Int32) (x9 : Int32) (x10 : Int32) (x11 : Int32) (x12 : Nat) (x13 : Int32) (x14 : Int32) (s0 : Int32) (s1 : Int32) (h : xH) : Y g DL_law h0 false iI (f_L_law_J414 (gX g) kH kE1110 x1 x2 x3 x4 x5 x7 x8 x9 x10 x11 x12 x13 x14 s0 s1 h) 414 [some (.ref 1000000), some (.ref x1), some (.ref x2), some (.ref x3), some (.ref x4), some (.int x5), none, some (.int x7), some (.int x8), some (.int x9), some (.int x10), some (.int x11), some (.ref x12), some (.int x13), some (.int x14), none, none, none, none] [.int s1, .int s0] h := by
  unfold f_L_law_J414
  refine Y.cmpne 421 (by decide) dL_law_414 ?_ ?_
  · refine Y.op (pc' := 422) (fun _ => X.ic ki_0 dL_law_421) ?_
    exact y_L_law_J422 hkH hkE1110 x1 x2 x3 x4 x5 x7 x8 x9 x10 x11 x12 x13 x14 (0 : Int32) h
  · refine Y.op (pc' := 418) (fun _ => X.ic ki_1 dL_law_417) ?_
    refine Y.op (pc' := 422) (fun _ => X.goto 422 (by decide) dL_law_418) ?_
    exact y_L_law_J422 hkH hkE1110 x1 x2 x3 x4 x5 x7 x8 x9 x10 x11 x12 x13 x14 (1 : Int32) h
def f_L_law_J384 (S : List Int32) (kH : Nat → Nat → Nat → Nat → Int32 → Int32 → Int32 → xH → Option (Int32 × xH)) (kE1110 : Nat → Nat → Int32 → xH → Option (Int32 × xH)) (x1 : Nat) (x2 : Nat) (x3 : Nat) (x4 : Nat) (x5 : Int32) (x7 : Int32) (x8 : Int32) (x9 : Int32) (x10 : Int32) (x11 : Int32) (x12 : Nat) (x14 : Int32) (s0 : Int32) (h : xH) : Option (Int32 × xH) :=
  (f_L_drop x1 x10 x11 h).bind fun r1 =>
  if s0 = (0 : Int32) then
    f_L_law_J414 S (kH) kE1110 x1 x2 x3 x4 x5 x7 x8 x9 x10 x11 x12 s0 x14 r1.1 (-2000000098 : Int32) r1.2
  else
    (gR r1.2 10 x3 5).bind fun v2 =>
    (aR 102 r1.2 v2 x10).bind fun v3 =>
    (aI r1.2 v3 x11).bind fun v4 =>
    f_L_law_J414 S (kH) kE1110 x1 x2 x3 x4 x5 x7 x8 x9 x10 x11 x12 s0 x14 r1.1 v4 r1.2
theorem y_L_law_J384 {g : xG} {h0 : xH} {kH : Nat → Nat → Nat → Nat → Int32 → Int32 → Int32 → xH → Option (Int32 × xH)} {kE1110 : Nat → Nat → Int32 → xH → Option (Int32 × xH)} (hkH : ∀ (x1 : Nat) (x2 : Nat) (x3 : Nat) (x4 : Nat) (x5 : Int32) (x6 : Int32) (x7 : Int32) (h : xH), Y g DL_law h0 false iI (kH x1 x2 x3 x4 x5 x6 x7 h) 37 [some (.ref 1000000), some (.ref x1), some (.ref x2), some (.ref x3), some (.ref x4), some (.int x5), some (.int x6), some (.int x7), none, none, none, none, none, none, none, none, none, none, none] [] h) (hkE1110 : ∀ (x1 : Nat) (x3 : Nat) (x6 : Int32) (h : xH), Y g DL_law h0 false iI (kE1110 x1 x3 x6 h) 1110 [none, some (.ref x1), none, some (.ref x3), none, none, some (.int x6), none, none, none, none, none, none, none, none, none, none, none, none] [] h) (x1 : Nat) (x2 : Nat) (x3 : Nat) (x4 : Nat) (x5 : Int32) (x7 : Int32) (x8 : Int32) (x9 : Int32) (x10 : Int32) (x11 : Int32) (x12 : Nat) (x14 : Int32) (s0 : Int32) (h : xH) : Y g DL_law h0 false iI (f_L_law_J384 (gX g) kH kE1110 x1 x2 x3 x4 x5 x7 x8 x9 x10 x11 x12 x14 s0 h) 384 [some (.ref 1000000), some (.ref x1), some (.ref x2), some (.ref x3), some (.ref x4), some (.int x5), none, some (.int x7), some (.int x8), some (.int x9), some (.int x10), some (.int x11), some (.ref x12), none, some (.int x14), none, none, none, none] [.int s0] h := by
  unfold f_L_law_J384
  refine Y.op (pc' := 386) (loc' := [some (.ref 1000000), some (.ref x1), some (.ref x2), some (.ref x3), some (.ref x4), some (.int x5), none, some (.int x7), some (.int x8), some (.int x9), some (.int x10), some (.int x11), some (.ref x12), some (.int s0), some (.int x14), none, none, none, none]) (fun _ => X.istore (Nat.le_of_ble_eq_true rfl) rfl dL_law_384) ?_
  refine Y.op (pc' := 387) (fun _ => X.aloadn rfl dL_law_386) ?_
  refine Y.op (pc' := 389) (fun _ => X.iload rfl dL_law_387) ?_
  refine Y.op (pc' := 391) (fun _ => X.iload rfl dL_law_389) ?_
  refine Y.callSWi (As := [.ref x1, .int x10, .int x11]) lkw_L_drop rfl calw_L_drop staw_L_drop (Nat.le_of_ble_eq_true rfl) rfl rfl (Nat.le_of_ble_eq_true rfl) dL_law_391 (fun _ e => m_L_drop x1 x10 x11 h _ e) (fun r1 => ?_)
  refine Y.op (pc' := 396) (fun _ => X.iload rfl dL_law_394) ?_
  refine Y.ifeq 412 (by decide) dL_law_396 ?_ ?_
  · refine Y.op (pc' := 414) (fun _ => X.ldcI wc_L_35 rfl dL_law_412) ?_
    exact y_L_law_J414 hkH hkE1110 x1 x2 x3 x4 x5 x7 x8 x9 x10 x11 x12 s0 x14 r1.1 (-2000000098 : Int32) r1.2
  · refine Y.op (pc' := 400) (fun _ => X.aloadn rfl dL_law_399) ?_
    refine Y.getR fd_L_171 rfl dL_law_400 (fun v2 => ?_)
    refine Y.op (pc' := 405) (fun _ => X.iload rfl dL_law_403) ?_
    refine Y.aldR 102 (by decide) (by decide) dL_law_405 (fun v3 => ?_)
    refine Y.op (pc' := 408) (fun _ => X.iload rfl dL_law_406) ?_
    refine Y.aldI dL_law_408 (fun v4 => ?_)
    refine Y.op (pc' := 414) (fun _ => X.goto 414 (by decide) dL_law_409) ?_
    exact y_L_law_J414 hkH hkE1110 x1 x2 x3 x4 x5 x7 x8 x9 x10 x11 x12 s0 x14 r1.1 v4 r1.2
def f_L_law_J343 (S : List Int32) (kH : Nat → Nat → Nat → Nat → Int32 → Int32 → Int32 → xH → Option (Int32 × xH)) (kE1110 : Nat → Nat → Int32 → xH → Option (Int32 × xH)) (x1 : Nat) (x2 : Nat) (x3 : Nat) (x4 : Nat) (x5 : Int32) (x7 : Int32) (x8 : Int32) (x9 : Int32) (x10 : Int32) (x11 : Int32) (x12 : Nat) (x13 : Int32) (x14 : Int32) (x15 : Int32) (s0 : Int32) (h : xH) : Option (Int32 × xH) :=
  (gR h 10 x3 5).bind fun v1 =>
  (aR 102 h v1 x10).bind fun v2 =>
  (sI h v2 x11 x15).bind fun h3 =>
  f_L_law_J1017 S (kH) kE1110 x1 x2 x3 x4 x5 s0 x7 x8 x9 x12 x13 x14 h3
theorem y_L_law_J343 {g : xG} {h0 : xH} {kH : Nat → Nat → Nat → Nat → Int32 → Int32 → Int32 → xH → Option (Int32 × xH)} {kE1110 : Nat → Nat → Int32 → xH → Option (Int32 × xH)} (hkH : ∀ (x1 : Nat) (x2 : Nat) (x3 : Nat) (x4 : Nat) (x5 : Int32) (x6 : Int32) (x7 : Int32) (h : xH), Y g DL_law h0 false iI (kH x1 x2 x3 x4 x5 x6 x7 h) 37 [some (.ref 1000000), some (.ref x1), some (.ref x2), some (.ref x3), some (.ref x4), some (.int x5), some (.int x6), some (.int x7), none, none, none, none, none, none, none, none, none, none, none] [] h) (hkE1110 : ∀ (x1 : Nat) (x3 : Nat) (x6 : Int32) (h : xH), Y g DL_law h0 false iI (kE1110 x1 x3 x6 h) 1110 [none, some (.ref x1), none, some (.ref x3), none, none, some (.int x6), none, none, none, none, none, none, none, none, none, none, none, none] [] h) (x1 : Nat) (x2 : Nat) (x3 : Nat) (x4 : Nat) (x5 : Int32) (x7 : Int32) (x8 : Int32) (x9 : Int32) (x10 : Int32) (x11 : Int32) (x12 : Nat) (x13 : Int32) (x14 : Int32) (x15 : Int32) (s0 : Int32) (h : xH) : Y g DL_law h0 false iI (f_L_law_J343 (gX g) kH kE1110 x1 x2 x3 x4 x5 x7 x8 x9 x10 x11 x12 x13 x14 x15 s0 h) 343 [some (.ref 1000000), some (.ref x1), some (.ref x2), some (.ref x3), some (.ref x4), some (.int x5), none, some (.int x7), some (.int x8), some (.int x9), some (.int x10), some (.int x11), some (.ref x12), some (.int x13), some (.int x14), some (.int x15), none, none, none] [.int s0] h := by
  unfold f_L_law_J343
  refine Y.op (pc' := 345) (loc' := [some (.ref 1000000), some (.ref x1), some (.ref x2), some (.ref x3), some (.ref x4), some (.int x5), some (.int s0), some (.int x7), some (.int x8), some (.int x9), some (.int x10), some (.int x11), some (.ref x12), some (.int x13), some (.int x14), some (.int x15), none, none, none]) (fun _ => X.istore (Nat.le_of_ble_eq_true rfl) rfl dL_law_343) ?_
  refine Y.op (pc' := 346) (fun _ => X.aloadn rfl dL_law_345) ?_
  refine Y.getR fd_L_171 rfl dL_law_346 (fun v1 => ?_)
  refine Y.op (pc' := 351) (fun _ => X.iload rfl dL_law_349) ?_
  refine Y.aldR 102 (by decide) (by decide) dL_law_351 (fun v2 => ?_)
  refine Y.op (pc' := 354) (fun _ => X.iload rfl dL_law_352) ?_
  refine Y.op (pc' := 356) (fun _ => X.iload rfl dL_law_354) ?_
  refine Y.astI dL_law_356 (fun h3 => ?_)
  refine Y.op (pc' := 1017) (fun _ => X.goto 1017 (by decide) dL_law_357) ?_
  exact Y.fg (y_L_law_J1017 hkH hkE1110 x1 x2 x3 x4 x5 s0 x7 x8 x9 x12 x13 x14 h3) (And.intro rfl (And.intro rfl (And.intro rfl (And.intro rfl (And.intro rfl (And.intro rfl (And.intro rfl (And.intro rfl (And.intro rfl (And.intro rfl (And.intro rfl (And.intro rfl (And.intro rfl trivial)))))))))))))
def f_L_law_J299 (S : List Int32) (kH : Nat → Nat → Nat → Nat → Int32 → Int32 → Int32 → xH → Option (Int32 × xH)) (kE1110 : Nat → Nat → Int32 → xH → Option (Int32 × xH)) (x1 : Nat) (x2 : Nat) (x3 : Nat) (x4 : Nat) (x5 : Int32) (x7 : Int32) (x8 : Int32) (x9 : Int32) (x10 : Int32) (x11 : Int32) (x12 : Nat) (x13 : Int32) (x14 : Int32) (h : xH) : Option (Int32 × xH) :=
  if x9 = (1 : Int32) then
    lt (((x8 >>> ((6 : Int32) &&& 31)) &&& (31 : Int32))) fun v16 =>
    (f_L_add x1 x10 x11 v16 h).bind fun r17 =>
    (gR r17.2 10 x3 5).bind fun v18 =>
    (aR 102 r17.2 v18 x10).bind fun v19 =>
    (aI r17.2 v19 x11).bind fun v20 =>
    if r17.1 = v20 then
      f_L_law_J343 S (kH) kE1110 x1 x2 x3 x4 x5 x7 x8 x9 x10 x11 x12 x13 x14 v16 (1 : Int32) r17.2
    else
      f_L_law_J343 S (kH) kE1110 x1 x2 x3 x4 x5 x7 x8 x9 x10 x11 x12 x13 x14 v16 (0 : Int32) r17.2
  else
    if x9 = (2 : Int32) then
      (gR h 10 x3 5).bind fun v13 =>
      (aR 102 h v13 x10).bind fun v14 =>
      (aI h v14 x11).bind fun v15 =>
      if v15 < (0 : Int32) then
        f_L_law_J384 S (kH) kE1110 x1 x2 x3 x4 x5 x7 x8 x9 x10 x11 x12 x14 (0 : Int32) h
      else
        f_L_law_J384 S (kH) kE1110 x1 x2 x3 x4 x5 x7 x8 x9 x10 x11 x12 x14 (1 : Int32) h
    else
      if x9 = (3 : Int32) then
        lt (((x8 >>> ((8 : Int32) &&& 31)) &&& (1 : Int32))) fun v12 =>
        if ((x8 >>> ((9 : Int32) &&& 31)) &&& (1 : Int32)) = (0 : Int32) then
          f_L_law_J488 S (kH) kE1110 x1 x2 x3 x4 x5 x7 x8 x9 x10 x11 x12 x14 v12 (1 : Int32) h
        else
          f_L_law_J488 S (kH) kE1110 x1 x2 x3 x4 x5 x7 x8 x9 x10 x11 x12 x14 v12 (0 : Int32) h
      else
        if x9 = (4 : Int32) then
          (vc h 10 x3 (f_X10_can x3 x10 x11 h)).bind fun r9 =>
          if r9.1 = (0 : Int32) then
            f_L_law_J714 S (kH) kE1110 x1 x2 x3 x4 x5 x7 x8 x9 x10 x11 x12 x14 r9.2
          else
            (gR r9.2 10 x3 6).bind fun v10 =>
            (aI r9.2 v10 x10).bind fun v11 =>
            if v11 = x11 then
              f_L_law_J714 S (kH) kE1110 x1 x2 x3 x4 x5 x7 x8 x9 x10 x11 x12 x14 r9.2
            else
              f_L_law_J715 S (kH) kE1110 x1 x2 x3 x4 x5 x7 x8 x9 x10 x11 x12 x14 (1 : Int32) r9.2
        else
          if x9 = (5 : Int32) then
            (gR h 10 x3 6).bind fun v7 =>
            (aI h v7 x10).bind fun v8 =>
            if v8 < (0 : Int32) then
              f_L_law_J808 S (kH) kE1110 x1 x2 x3 x4 x5 x7 x8 x9 x10 x12 x14 (0 : Int32) h
            else
              f_L_law_J808 S (kH) kE1110 x1 x2 x3 x4 x5 x7 x8 x9 x10 x12 x14 (1 : Int32) h
          else
            if x9 = (6 : Int32) then
              if (x8 &&& (1 : Int32)) = (0 : Int32) then
                (f_L_keep x1 ((x8 >>> ((1 : Int32) &&& 31)) &&& (1 : Int32)) h).bind fun r5 =>
                (gI r5.2 10 x3 2).bind fun v6 =>
                if v6 = (0 : Int32) then
                  f_L_law_J890 S (kH) kE1110 x1 x2 x3 x4 x5 x7 x8 x9 x12 x13 x14 r5.1 (0 : Int32) r5.2
                else
                  f_L_law_J890 S (kH) kE1110 x1 x2 x3 x4 x5 x7 x8 x9 x12 x13 x14 r5.1 (1 : Int32) r5.2
              else
                lt (((1 : Int32) + ((x8 >>> ((1 : Int32) &&& 31)) &&& (3 : Int32)))) fun v2 =>
                (vc h 10 x3 (f_X10_settles x3 v2 h)).bind fun r3 =>
                (f_L_settle x1 v2 r3.2).bind fun r4 =>
                if r4.1 = r3.1 then
                  f_L_law_J956 S (kH) kE1110 x1 x2 x3 x4 x5 x7 x8 x9 x12 x14 r3.1 (1 : Int32) r4.2
                else
                  f_L_law_J956 S (kH) kE1110 x1 x2 x3 x4 x5 x7 x8 x9 x12 x14 r3.1 (0 : Int32) r4.2
            else
              (vc h 9 x1 (f_X9_undo x1 h)).bind fun r1 =>
              if x5 = (0 : Int32) then
                f_L_law_J990 S (kH) kE1110 x1 x2 x3 x4 x5 x7 x8 x9 x12 x14 r1.1 (-1 : Int32) r1.2
              else
                f_L_law_J990 S (kH) kE1110 x1 x2 x3 x4 x5 x7 x8 x9 x12 x14 r1.1 (x5 - (1 : Int32)) r1.2
theorem y_L_law_J299 {g : xG} {h0 : xH} {kH : Nat → Nat → Nat → Nat → Int32 → Int32 → Int32 → xH → Option (Int32 × xH)} {kE1110 : Nat → Nat → Int32 → xH → Option (Int32 × xH)} (hkH : ∀ (x1 : Nat) (x2 : Nat) (x3 : Nat) (x4 : Nat) (x5 : Int32) (x6 : Int32) (x7 : Int32) (h : xH), Y g DL_law h0 false iI (kH x1 x2 x3 x4 x5 x6 x7 h) 37 [some (.ref 1000000), some (.ref x1), some (.ref x2), some (.ref x3), some (.ref x4), some (.int x5), some (.int x6), some (.int x7), none, none, none, none, none, none, none, none, none, none, none] [] h) (hkE1110 : ∀ (x1 : Nat) (x3 : Nat) (x6 : Int32) (h : xH), Y g DL_law h0 false iI (kE1110 x1 x3 x6 h) 1110 [none, some (.ref x1), none, some (.ref x3), none, none, some (.int x6), none, none, none, none, none, none, none, none, none, none, none, none] [] h) (x1 : Nat) (x2 : Nat) (x3 : Nat) (x4 : Nat) (x5 : Int32) (x7 : Int32) (x8 : Int32) (x9 : Int32) (x10 : Int32) (x11 : Int32) (x12 : Nat) (x13 : Int32) (x14 : Int32) (h : xH) : Y g DL_law h0 false iI (f_L_law_J299 (gX g) kH kE1110 x1 x2 x3 x4 x5 x7 x8 x9 x10 x11 x12 x13 x14 h) 299 [some (.ref 1000000), some (.ref x1), some (.ref x2), some (.ref x3), some (.ref x4), some (.int x5), none, some (.int x7), some (.int x8), some (.int x9), some (.int x10), some (.int x11), some (.ref x12), some (.int x13), some (.int x14), none, none, none, none] [] h := by
  unfold f_L_law_J299
  refine Y.op (pc' := 301) (fun _ => X.iload rfl dL_law_299) ?_
  refine Y.op (pc' := 302) (fun _ => X.ic ki_1 dL_law_301) ?_
  refine Y.cmpne 360 (by decide) dL_law_302 ?_ ?_
  · refine Y.op (pc' := 362) (fun _ => X.iload rfl dL_law_360) ?_
    refine Y.op (pc' := 363) (fun _ => X.ic ki_2 dL_law_362) ?_
    refine Y.cmpne 458 (by decide) dL_law_363 ?_ ?_
    · refine Y.op (pc' := 460) (fun _ => X.iload rfl dL_law_458) ?_
      refine Y.op (pc' := 461) (fun _ => X.ic ki_3 dL_law_460) ?_
      refine Y.cmpne 681 (by decide) dL_law_461 ?_ ?_
      · refine Y.op (pc' := 683) (fun _ => X.iload rfl dL_law_681) ?_
        refine Y.op (pc' := 684) (fun _ => X.ic ki_4 dL_law_683) ?_
        refine Y.cmpne 787 (by decide) dL_law_684 ?_ ?_
        · refine Y.op (pc' := 789) (fun _ => X.iload rfl dL_law_787) ?_
          refine Y.op (pc' := 790) (fun _ => X.ic ki_5 dL_law_789) ?_
          refine Y.cmpne 854 (by decide) dL_law_790 ?_ ?_
          · refine Y.op (pc' := 856) (fun _ => X.iload rfl dL_law_854) ?_
            refine Y.op (pc' := 858) (fun _ => X.bp kb_6 dL_law_856) ?_
            refine Y.cmpne 973 (by decide) dL_law_858 ?_ ?_
            · refine Y.op (pc' := 974) (fun _ => X.aloadn rfl dL_law_973) ?_
              refine Y.callVi (As := []) lk_L_315 rfl cal_X9_undo vir_X9_undo (Nat.le_of_ble_eq_true rfl) (Nat.le_of_ble_eq_true rfl) rfl rfl rfl (Nat.le_of_ble_eq_true rfl) dL_law_974 (fun _ e => m_X9_undo x1 h _ _ e) (fun r1 => ?_)
              refine Y.op (pc' := 979) (fun _ => X.iload rfl dL_law_977) ?_
              refine Y.ifne 986 (by decide) dL_law_979 ?_ ?_
              · refine Y.op (pc' := 988) (fun _ => X.iload rfl dL_law_986) ?_
                refine Y.op (pc' := 989) (fun _ => X.ic ki_1 dL_law_988) ?_
                refine Y.op (pc' := 990) (fun _ => X.isub dL_law_989) ?_
                exact Y.fg (y_L_law_J990 hkH hkE1110 x1 x2 x3 x4 x5 x7 x8 x9 x12 x14 r1.1 (x5 - (1 : Int32)) r1.2) (And.intro rfl (And.intro rfl (And.intro rfl (And.intro rfl (And.intro rfl (And.intro rfl (And.intro rfl (And.intro rfl (And.intro rfl (And.intro rfl (And.intro rfl trivial)))))))))))
              · refine Y.op (pc' := 983) (fun _ => X.ic ki_m1 dL_law_982) ?_
                refine Y.op (pc' := 990) (fun _ => X.goto 990 (by decide) dL_law_983) ?_
                exact Y.fg (y_L_law_J990 hkH hkE1110 x1 x2 x3 x4 x5 x7 x8 x9 x12 x14 r1.1 (-1 : Int32) r1.2) (And.intro rfl (And.intro rfl (And.intro rfl (And.intro rfl (And.intro rfl (And.intro rfl (And.intro rfl (And.intro rfl (And.intro rfl (And.intro rfl (And.intro rfl trivial)))))))))))
            · refine Y.op (pc' := 863) (fun _ => X.iload rfl dL_law_861) ?_
              refine Y.op (pc' := 864) (fun _ => X.ic ki_1 dL_law_863) ?_
              refine Y.op (pc' := 865) (fun _ => X.iand dL_law_864) ?_
              refine Y.ifne 922 (by decide) dL_law_865 ?_ ?_
              · refine Y.op (pc' := 923) (fun _ => X.ic ki_1 dL_law_922) ?_
                refine Y.op (pc' := 925) (fun _ => X.iload rfl dL_law_923) ?_
                refine Y.op (pc' := 926) (fun _ => X.ic ki_1 dL_law_925) ?_
                refine Y.op (pc' := 927) (fun _ => X.ishr dL_law_926) ?_
                refine Y.op (pc' := 928) (fun _ => X.ic ki_3 dL_law_927) ?_
                refine Y.op (pc' := 929) (fun _ => X.iand dL_law_928) ?_
                refine Y.op (pc' := 930) (fun _ => X.iadd dL_law_929) ?_
                refine Y.top (fun v2 => ?_)
                refine Y.op (pc' := 932) (loc' := [some (.ref 1000000), some (.ref x1), some (.ref x2), some (.ref x3), some (.ref x4), some (.int x5), none, some (.int x7), some (.int x8), some (.int x9), some (.int x10), some (.int x11), some (.ref x12), some (.int x13), some (.int x14), some (.int v2), none, none, none]) (fun _ => X.istore (Nat.le_of_ble_eq_true rfl) rfl dL_law_930) ?_
                refine Y.op (pc' := 933) (fun _ => X.aloadn rfl dL_law_932) ?_
                refine Y.op (pc' := 935) (fun _ => X.iload rfl dL_law_933) ?_
                refine Y.callVi (As := [.int v2]) lk_L_201 rfl cal_X10_settles vir_X10_settles (Nat.le_of_ble_eq_true rfl) (Nat.le_of_ble_eq_true rfl) rfl rfl rfl (Nat.le_of_ble_eq_true rfl) dL_law_935 (fun _ e => m_X10_settles x3 v2 h _ e) (fun r3 => ?_)
                refine Y.op (pc' := 940) (loc' := [some (.ref 1000000), some (.ref x1), some (.ref x2), some (.ref x3), some (.ref x4), some (.int x5), none, some (.int x7), some (.int x8), some (.int x9), some (.int x10), some (.int x11), some (.ref x12), some (.int x13), some (.int x14), some (.int v2), some (.int r3.1), none, none]) (fun _ => X.istore (Nat.le_of_ble_eq_true rfl) rfl dL_law_938) ?_
                refine Y.op (pc' := 941) (fun _ => X.aloadn rfl dL_law_940) ?_
                refine Y.op (pc' := 943) (fun _ => X.iload rfl dL_law_941) ?_
                refine Y.callSWi (As := [.ref x1, .int v2]) lkw_L_settle rfl calw_L_settle staw_L_settle (Nat.le_of_ble_eq_true rfl) rfl rfl (Nat.le_of_ble_eq_true rfl) dL_law_943 (fun _ e => m_L_settle x1 v2 r3.2 _ e) (fun r4 => ?_)
                refine Y.op (pc' := 948) (fun _ => X.iload rfl dL_law_946) ?_
                refine Y.cmpne 955 (by decide) dL_law_948 ?_ ?_
                · refine Y.op (pc' := 956) (fun _ => X.ic ki_0 dL_law_955) ?_
                  exact Y.fg (y_L_law_J956 hkH hkE1110 x1 x2 x3 x4 x5 x7 x8 x9 x12 x14 r3.1 (0 : Int32) r4.2) (And.intro rfl (And.intro rfl (And.intro rfl (And.intro rfl (And.intro rfl (And.intro rfl (And.intro rfl (And.intro rfl (And.intro rfl (And.intro rfl (And.intro rfl (And.intro rfl trivial))))))))))))
                · refine Y.op (pc' := 952) (fun _ => X.ic ki_1 dL_law_951) ?_
                  refine Y.op (pc' := 956) (fun _ => X.goto 956 (by decide) dL_law_952) ?_
                  exact Y.fg (y_L_law_J956 hkH hkE1110 x1 x2 x3 x4 x5 x7 x8 x9 x12 x14 r3.1 (1 : Int32) r4.2) (And.intro rfl (And.intro rfl (And.intro rfl (And.intro rfl (And.intro rfl (And.intro rfl (And.intro rfl (And.intro rfl (And.intro rfl (And.intro rfl (And.intro rfl (And.intro rfl trivial))))))))))))
              · refine Y.op (pc' := 869) (fun _ => X.aloadn rfl dL_law_868) ?_
                refine Y.op (pc' := 871) (fun _ => X.iload rfl dL_law_869) ?_
                refine Y.op (pc' := 872) (fun _ => X.ic ki_1 dL_law_871) ?_
                refine Y.op (pc' := 873) (fun _ => X.ishr dL_law_872) ?_
                refine Y.op (pc' := 874) (fun _ => X.ic ki_1 dL_law_873) ?_
                refine Y.op (pc' := 875) (fun _ => X.iand dL_law_874) ?_
                refine Y.callSWi (As := [.ref x1, .int ((x8 >>> ((1 : Int32) &&& 31)) &&& (1 : Int32))]) lkw_L_keep rfl calw_L_keep staw_L_keep (Nat.le_of_ble_eq_true rfl) rfl rfl (Nat.le_of_ble_eq_true rfl) dL_law_875 (fun _ e => m_L_keep x1 ((x8 >>> ((1 : Int32) &&& 31)) &&& (1 : Int32)) h _ e) (fun r5 => ?_)
                refine Y.op (pc' := 879) (fun _ => X.aloadn rfl dL_law_878) ?_
                refine Y.getI fd_L_153 rfl dL_law_879 (fun v6 => ?_)
                refine Y.ifeq 889 (by decide) dL_law_882 ?_ ?_
                · refine Y.op (pc' := 890) (fun _ => X.ic ki_0 dL_law_889) ?_
                  exact Y.fg (y_L_law_J890 hkH hkE1110 x1 x2 x3 x4 x5 x7 x8 x9 x12 x13 x14 r5.1 (0 : Int32) r5.2) (And.intro rfl (And.intro rfl (And.intro rfl (And.intro rfl (And.intro rfl (And.intro rfl (And.intro rfl (And.intro rfl (And.intro rfl (And.intro rfl (And.intro rfl (And.intro rfl trivial))))))))))))
                · refine Y.op (pc' := 886) (fun _ => X.ic ki_1 dL_law_885) ?_
                  refine Y.op (pc' := 890) (fun _ => X.goto 890 (by decide) dL_law_886) ?_
                  exact Y.fg (y_L_law_J890 hkH hkE1110 x1 x2 x3 x4 x5 x7 x8 x9 x12 x13 x14 r5.1 (1 : Int32) r5.2) (And.intro rfl (And.intro rfl (And.intro rfl (And.intro rfl (And.intro rfl (And.intro rfl (And.intro rfl (And.intro rfl (And.intro rfl (And.intro rfl (And.intro rfl (And.intro rfl trivial))))))))))))
          · refine Y.op (pc' := 794) (fun _ => X.aloadn rfl dL_law_793) ?_
            refine Y.getR fd_L_189 rfl dL_law_794 (fun v7 => ?_)
            refine Y.op (pc' := 799) (fun _ => X.iload rfl dL_law_797) ?_
            refine Y.aldI dL_law_799 (fun v8 => ?_)
            refine Y.iflt 807 (by decide) dL_law_800 ?_ ?_
            · refine Y.op (pc' := 808) (fun _ => X.ic ki_0 dL_law_807) ?_
              exact Y.fg (y_L_law_J808 hkH hkE1110 x1 x2 x3 x4 x5 x7 x8 x9 x10 x12 x14 (0 : Int32) h) (And.intro rfl (And.intro rfl (And.intro rfl (And.intro rfl (And.intro rfl (And.intro rfl (And.intro rfl (And.intro rfl (And.intro rfl (And.intro rfl (And.intro rfl (And.intro rfl trivial))))))))))))
            · refine Y.op (pc' := 804) (fun _ => X.ic ki_1 dL_law_803) ?_
              refine Y.op (pc' := 808) (fun _ => X.goto 808 (by decide) dL_law_804) ?_
              exact Y.fg (y_L_law_J808 hkH hkE1110 x1 x2 x3 x4 x5 x7 x8 x9 x10 x12 x14 (1 : Int32) h) (And.intro rfl (And.intro rfl (And.intro rfl (And.intro rfl (And.intro rfl (And.intro rfl (And.intro rfl (And.intro rfl (And.intro rfl (And.intro rfl (And.intro rfl (And.intro rfl trivial))))))))))))
        · refine Y.op (pc' := 688) (fun _ => X.aloadn rfl dL_law_687) ?_
          refine Y.op (pc' := 690) (fun _ => X.iload rfl dL_law_688) ?_
          refine Y.op (pc' := 692) (fun _ => X.iload rfl dL_law_690) ?_
          refine Y.callVi (As := [.int x10, .int x11]) lk_L_182 rfl cal_X10_can vir_X10_can (Nat.le_of_ble_eq_true rfl) (Nat.le_of_ble_eq_true rfl) rfl rfl rfl (Nat.le_of_ble_eq_true rfl) dL_law_692 (fun _ e => m_X10_can x3 x10 x11 h _ e) (fun r9 => ?_)
          refine Y.ifeq 714 (by decide) dL_law_695 ?_ ?_
          · exact Y.fg (y_L_law_J714 hkH hkE1110 x1 x2 x3 x4 x5 x7 x8 x9 x10 x11 x12 x14 r9.2) (And.intro rfl (And.intro rfl (And.intro rfl (And.intro rfl (And.intro rfl (And.intro rfl (And.intro rfl (And.intro rfl (And.intro rfl (And.intro rfl (And.intro rfl (And.intro rfl (And.intro rfl trivial)))))))))))))
          · refine Y.op (pc' := 699) (fun _ => X.aloadn rfl dL_law_698) ?_
            refine Y.getR fd_L_189 rfl dL_law_699 (fun v10 => ?_)
            refine Y.op (pc' := 704) (fun _ => X.iload rfl dL_law_702) ?_
            refine Y.aldI dL_law_704 (fun v11 => ?_)
            refine Y.op (pc' := 707) (fun _ => X.iload rfl dL_law_705) ?_
            refine Y.cmpeq 714 (by decide) dL_law_707 ?_ ?_
            · exact Y.fg (y_L_law_J714 hkH hkE1110 x1 x2 x3 x4 x5 x7 x8 x9 x10 x11 x12 x14 r9.2) (And.intro rfl (And.intro rfl (And.intro rfl (And.intro rfl (And.intro rfl (And.intro rfl (And.intro rfl (And.intro rfl (And.intro rfl (And.intro rfl (And.intro rfl (And.intro rfl (And.intro rfl trivial)))))))))))))
            · refine Y.op (pc' := 711) (fun _ => X.ic ki_1 dL_law_710) ?_
              refine Y.op (pc' := 715) (fun _ => X.goto 715 (by decide) dL_law_711) ?_
              exact Y.fg (y_L_law_J715 hkH hkE1110 x1 x2 x3 x4 x5 x7 x8 x9 x10 x11 x12 x14 (1 : Int32) r9.2) (And.intro rfl (And.intro rfl (And.intro rfl (And.intro rfl (And.intro rfl (And.intro rfl (And.intro rfl (And.intro rfl (And.intro rfl (And.intro rfl (And.intro rfl (And.intro rfl (And.intro rfl trivial)))))))))))))
      · refine Y.op (pc' := 466) (fun _ => X.iload rfl dL_law_464) ?_
        refine Y.op (pc' := 468) (fun _ => X.bp kb_8 dL_law_466) ?_
        refine Y.op (pc' := 469) (fun _ => X.ishr dL_law_468) ?_
        refine Y.op (pc' := 470) (fun _ => X.ic ki_1 dL_law_469) ?_
        refine Y.op (pc' := 471) (fun _ => X.iand dL_law_470) ?_
        refine Y.top (fun v12 => ?_)
        refine Y.op (pc' := 473) (loc' := [some (.ref 1000000), some (.ref x1), some (.ref x2), some (.ref x3), some (.ref x4), some (.int x5), none, some (.int x7), some (.int x8), some (.int x9), some (.int x10), some (.int x11), some (.ref x12), some (.int x13), some (.int x14), some (.int v12), none, none, none]) (fun _ => X.istore (Nat.le_of_ble_eq_true rfl) rfl dL_law_471) ?_
        refine Y.op (pc' := 475) (fun _ => X.iload rfl dL_law_473) ?_
        refine Y.op (pc' := 477) (fun _ => X.bp kb_9 dL_law_475) ?_
        refine Y.op (pc' := 478) (fun _ => X.ishr dL_law_477) ?_
        refine Y.op (pc' := 479) (fun _ => X.ic ki_1 dL_law_478) ?_
        refine Y.op (pc' := 480) (fun _ => X.iand dL_law_479) ?_
        refine Y.ifne 487 (by decide) dL_law_480 ?_ ?_
        · refine Y.op (pc' := 488) (fun _ => X.ic ki_0 dL_law_487) ?_
          exact Y.fg (y_L_law_J488 hkH hkE1110 x1 x2 x3 x4 x5 x7 x8 x9 x10 x11 x12 x14 v12 (0 : Int32) h) (And.intro rfl (And.intro rfl (And.intro rfl (And.intro rfl (And.intro rfl (And.intro rfl (And.intro rfl (And.intro rfl (And.intro rfl (And.intro rfl (And.intro rfl (And.intro rfl (And.intro rfl (And.intro rfl trivial))))))))))))))
        · refine Y.op (pc' := 484) (fun _ => X.ic ki_1 dL_law_483) ?_
          refine Y.op (pc' := 488) (fun _ => X.goto 488 (by decide) dL_law_484) ?_
          exact Y.fg (y_L_law_J488 hkH hkE1110 x1 x2 x3 x4 x5 x7 x8 x9 x10 x11 x12 x14 v12 (1 : Int32) h) (And.intro rfl (And.intro rfl (And.intro rfl (And.intro rfl (And.intro rfl (And.intro rfl (And.intro rfl (And.intro rfl (And.intro rfl (And.intro rfl (And.intro rfl (And.intro rfl (And.intro rfl (And.intro rfl trivial))))))))))))))
    · refine Y.op (pc' := 367) (fun _ => X.aloadn rfl dL_law_366) ?_
      refine Y.getR fd_L_171 rfl dL_law_367 (fun v13 => ?_)
      refine Y.op (pc' := 372) (fun _ => X.iload rfl dL_law_370) ?_
      refine Y.aldR 102 (by decide) (by decide) dL_law_372 (fun v14 => ?_)
      refine Y.op (pc' := 375) (fun _ => X.iload rfl dL_law_373) ?_
      refine Y.aldI dL_law_375 (fun v15 => ?_)
      refine Y.iflt 383 (by decide) dL_law_376 ?_ ?_
      · refine Y.op (pc' := 384) (fun _ => X.ic ki_0 dL_law_383) ?_
        exact Y.fg (y_L_law_J384 hkH hkE1110 x1 x2 x3 x4 x5 x7 x8 x9 x10 x11 x12 x14 (0 : Int32) h) (And.intro rfl (And.intro rfl (And.intro rfl (And.intro rfl (And.intro rfl (And.intro rfl (And.intro rfl (And.intro rfl (And.intro rfl (And.intro rfl (And.intro rfl (And.intro rfl (And.intro rfl trivial)))))))))))))
      · refine Y.op (pc' := 380) (fun _ => X.ic ki_1 dL_law_379) ?_
        refine Y.op (pc' := 384) (fun _ => X.goto 384 (by decide) dL_law_380) ?_
        exact Y.fg (y_L_law_J384 hkH hkE1110 x1 x2 x3 x4 x5 x7 x8 x9 x10 x11 x12 x14 (1 : Int32) h) (And.intro rfl (And.intro rfl (And.intro rfl (And.intro rfl (And.intro rfl (And.intro rfl (And.intro rfl (And.intro rfl (And.intro rfl (And.intro rfl (And.intro rfl (And.intro rfl (And.intro rfl trivial)))))))))))))
  · refine Y.op (pc' := 307) (fun _ => X.iload rfl dL_law_305) ?_
    refine Y.op (pc' := 309) (fun _ => X.bp kb_6 dL_law_307) ?_
    refine Y.op (pc' := 310) (fun _ => X.ishr dL_law_309) ?_
    refine Y.op (pc' := 312) (fun _ => X.bp kb_31 dL_law_310) ?_
    refine Y.op (pc' := 313) (fun _ => X.iand dL_law_312) ?_
    refine Y.top (fun v16 => ?_)
    refine Y.op (pc' := 315) (loc' := [some (.ref 1000000), some (.ref x1), some (.ref x2), some (.ref x3), some (.ref x4), some (.int x5), none, some (.int x7), some (.int x8), some (.int x9), some (.int x10), some (.int x11), some (.ref x12), some (.int x13), some (.int x14), some (.int v16), none, none, none]) (fun _ => X.istore (Nat.le_of_ble_eq_true rfl) rfl dL_law_313) ?_
    refine Y.op (pc' := 316) (fun _ => X.aloadn rfl dL_law_315) ?_
    refine Y.op (pc' := 318) (fun _ => X.iload rfl dL_law_316) ?_
    refine Y.op (pc' := 320) (fun _ => X.iload rfl dL_law_318) ?_
    refine Y.op (pc' := 322) (fun _ => X.iload rfl dL_law_320) ?_
    refine Y.callSWi (As := [.ref x1, .int x10, .int x11, .int v16]) lkw_L_add rfl calw_L_add staw_L_add (Nat.le_of_ble_eq_true rfl) rfl rfl (Nat.le_of_ble_eq_true rfl) dL_law_322 (fun _ e => m_L_add x1 x10 x11 v16 h _ e) (fun r17 => ?_)
    refine Y.op (pc' := 326) (fun _ => X.aloadn rfl dL_law_325) ?_
    refine Y.getR fd_L_171 rfl dL_law_326 (fun v18 => ?_)
    refine Y.op (pc' := 331) (fun _ => X.iload rfl dL_law_329) ?_
    refine Y.aldR 102 (by decide) (by decide) dL_law_331 (fun v19 => ?_)
    refine Y.op (pc' := 334) (fun _ => X.iload rfl dL_law_332) ?_
    refine Y.aldI dL_law_334 (fun v20 => ?_)
    refine Y.cmpne 342 (by decide) dL_law_335 ?_ ?_
    · refine Y.op (pc' := 343) (fun _ => X.ic ki_0 dL_law_342) ?_
      exact y_L_law_J343 hkH hkE1110 x1 x2 x3 x4 x5 x7 x8 x9 x10 x11 x12 x13 x14 v16 (0 : Int32) r17.2
    · refine Y.op (pc' := 339) (fun _ => X.ic ki_1 dL_law_338) ?_
      refine Y.op (pc' := 343) (fun _ => X.goto 343 (by decide) dL_law_339) ?_
      exact y_L_law_J343 hkH hkE1110 x1 x2 x3 x4 x5 x7 x8 x9 x10 x11 x12 x13 x14 v16 (1 : Int32) r17.2
def f_L_law_J291 (S : List Int32) (kH : Nat → Nat → Nat → Nat → Int32 → Int32 → Int32 → xH → Option (Int32 × xH)) (kE1110 : Nat → Nat → Int32 → xH → Option (Int32 × xH)) (x1 : Nat) (x2 : Nat) (x3 : Nat) (x4 : Nat) (x5 : Int32) (x6 : Int32) (x7 : Int32) (x8 : Int32) (x9 : Int32) (x12 : Nat) (s0 : Int32) (h : xH) : Option (Int32 × xH) :=
  f_L_law_J1017 S (kH) kE1110 x1 x2 x3 x4 x5 x6 x7 x8 x9 x12 s0 (1 : Int32) h
theorem y_L_law_J291 {g : xG} {h0 : xH} {kH : Nat → Nat → Nat → Nat → Int32 → Int32 → Int32 → xH → Option (Int32 × xH)} {kE1110 : Nat → Nat → Int32 → xH → Option (Int32 × xH)} (hkH : ∀ (x1 : Nat) (x2 : Nat) (x3 : Nat) (x4 : Nat) (x5 : Int32) (x6 : Int32) (x7 : Int32) (h : xH), Y g DL_law h0 false iI (kH x1 x2 x3 x4 x5 x6 x7 h) 37 [some (.ref 1000000), some (.ref x1), some (.ref x2), some (.ref x3), some (.ref x4), some (.int x5), some (.int x6), some (.int x7), none, none, none, none, none, none, none, none, none, none, none] [] h) (hkE1110 : ∀ (x1 : Nat) (x3 : Nat) (x6 : Int32) (h : xH), Y g DL_law h0 false iI (kE1110 x1 x3 x6 h) 1110 [none, some (.ref x1), none, some (.ref x3), none, none, some (.int x6), none, none, none, none, none, none, none, none, none, none, none, none] [] h) (x1 : Nat) (x2 : Nat) (x3 : Nat) (x4 : Nat) (x5 : Int32) (x6 : Int32) (x7 : Int32) (x8 : Int32) (x9 : Int32) (x12 : Nat) (s0 : Int32) (h : xH) : Y g DL_law h0 false iI (f_L_law_J291 (gX g) kH kE1110 x1 x2 x3 x4 x5 x6 x7 x8 x9 x12 s0 h) 291 [some (.ref 1000000), some (.ref x1), some (.ref x2), some (.ref x3), some (.ref x4), some (.int x5), some (.int x6), some (.int x7), some (.int x8), some (.int x9), none, none, some (.ref x12), none, none, none, none, none, none] [.int s0] h := by
  unfold f_L_law_J291
  refine Y.op (pc' := 293) (loc' := [some (.ref 1000000), some (.ref x1), some (.ref x2), some (.ref x3), some (.ref x4), some (.int x5), some (.int x6), some (.int x7), some (.int x8), some (.int x9), none, none, some (.ref x12), some (.int s0), none, none, none, none, none]) (fun _ => X.istore (Nat.le_of_ble_eq_true rfl) rfl dL_law_291) ?_
  refine Y.op (pc' := 294) (fun _ => X.ic ki_1 dL_law_293) ?_
  refine Y.op (pc' := 296) (loc' := [some (.ref 1000000), some (.ref x1), some (.ref x2), some (.ref x3), some (.ref x4), some (.int x5), some (.int x6), some (.int x7), some (.int x8), some (.int x9), none, none, some (.ref x12), some (.int s0), some (.int (1 : Int32)), none, none, none, none]) (fun _ => X.istore (Nat.le_of_ble_eq_true rfl) rfl dL_law_294) ?_
  refine Y.op (pc' := 1017) (fun _ => X.goto 1017 (by decide) dL_law_296) ?_
  exact y_L_law_J1017 hkH hkE1110 x1 x2 x3 x4 x5 x6 x7 x8 x9 x12 s0 (1 : Int32) h
def f_L_law_J279 (S : List Int32) (kH : Nat → Nat → Nat → Nat → Int32 → Int32 → Int32 → xH → Option (Int32 × xH)) (kE1110 : Nat → Nat → Int32 → xH → Option (Int32 × xH)) (x1 : Nat) (x2 : Nat) (x3 : Nat) (x4 : Nat) (x5 : Int32) (x7 : Int32) (x8 : Int32) (x9 : Int32) (x12 : Nat) (x15 : Int32) (s0 : Int32) (h : xH) : Option (Int32 × xH) :=
  if x15 ≤ (0 : Int32) then
    f_L_law_J291 S (kH) kE1110 x1 x2 x3 x4 x5 s0 x7 x8 x9 x12 (0 : Int32) h
  else
    f_L_law_J291 S (kH) kE1110 x1 x2 x3 x4 x5 s0 x7 x8 x9 x12 (1 : Int32) h
theorem y_L_law_J279 {g : xG} {h0 : xH} {kH : Nat → Nat → Nat → Nat → Int32 → Int32 → Int32 → xH → Option (Int32 × xH)} {kE1110 : Nat → Nat → Int32 → xH → Option (Int32 × xH)} (hkH : ∀ (x1 : Nat) (x2 : Nat) (x3 : Nat) (x4 : Nat) (x5 : Int32) (x6 : Int32) (x7 : Int32) (h : xH), Y g DL_law h0 false iI (kH x1 x2 x3 x4 x5 x6 x7 h) 37 [some (.ref 1000000), some (.ref x1), some (.ref x2), some (.ref x3), some (.ref x4), some (.int x5), some (.int x6), some (.int x7), none, none, none, none, none, none, none, none, none, none, none] [] h) (hkE1110 : ∀ (x1 : Nat) (x3 : Nat) (x6 : Int32) (h : xH), Y g DL_law h0 false iI (kE1110 x1 x3 x6 h) 1110 [none, some (.ref x1), none, some (.ref x3), none, none, some (.int x6), none, none, none, none, none, none, none, none, none, none, none, none] [] h) (x1 : Nat) (x2 : Nat) (x3 : Nat) (x4 : Nat) (x5 : Int32) (x7 : Int32) (x8 : Int32) (x9 : Int32) (x12 : Nat) (x15 : Int32) (s0 : Int32) (h : xH) : Y g DL_law h0 false iI (f_L_law_J279 (gX g) kH kE1110 x1 x2 x3 x4 x5 x7 x8 x9 x12 x15 s0 h) 279 [some (.ref 1000000), some (.ref x1), some (.ref x2), some (.ref x3), some (.ref x4), some (.int x5), none, some (.int x7), some (.int x8), some (.int x9), none, none, some (.ref x12), none, none, some (.int x15), none, none, none] [.int s0] h := by
  unfold f_L_law_J279
  refine Y.op (pc' := 281) (loc' := [some (.ref 1000000), some (.ref x1), some (.ref x2), some (.ref x3), some (.ref x4), some (.int x5), some (.int s0), some (.int x7), some (.int x8), some (.int x9), none, none, some (.ref x12), none, none, some (.int x15), none, none, none]) (fun _ => X.istore (Nat.le_of_ble_eq_true rfl) rfl dL_law_279) ?_
  refine Y.op (pc' := 283) (fun _ => X.iload rfl dL_law_281) ?_
  refine Y.ifle 290 (by decide) dL_law_283 ?_ ?_
  · refine Y.op (pc' := 291) (fun _ => X.ic ki_0 dL_law_290) ?_
    exact Y.fg (y_L_law_J291 hkH hkE1110 x1 x2 x3 x4 x5 s0 x7 x8 x9 x12 (0 : Int32) h) (And.intro rfl (And.intro rfl (And.intro rfl (And.intro rfl (And.intro rfl (And.intro rfl (And.intro rfl (And.intro rfl (And.intro rfl (And.intro rfl (And.intro rfl trivial)))))))))))
  · refine Y.op (pc' := 287) (fun _ => X.ic ki_1 dL_law_286) ?_
    refine Y.op (pc' := 291) (fun _ => X.goto 291 (by decide) dL_law_287) ?_
    exact Y.fg (y_L_law_J291 hkH hkE1110 x1 x2 x3 x4 x5 s0 x7 x8 x9 x12 (1 : Int32) h) (And.intro rfl (And.intro rfl (And.intro rfl (And.intro rfl (And.intro rfl (And.intro rfl (And.intro rfl (And.intro rfl (And.intro rfl (And.intro rfl (And.intro rfl trivial)))))))))))
def f_L_law_J243 (S : List Int32) (kH : Nat → Nat → Nat → Nat → Int32 → Int32 → Int32 → xH → Option (Int32 × xH)) (kE1110 : Nat → Nat → Int32 → xH → Option (Int32 × xH)) (x1 : Nat) (x2 : Nat) (x3 : Nat) (x4 : Nat) (x5 : Int32) (x7 : Int32) (x8 : Int32) (x9 : Int32) (x10 : Int32) (x11 : Int32) (x12 : Nat) (x13 : Int32) (x14 : Int32) (h : xH) : Option (Int32 × xH) :=
  if x9 = (5 : Int32) then
    if ((x8 >>> ((11 : Int32) &&& 31)) &&& (1 : Int32)) = (0 : Int32) then
      (vc h 10 x3 (f_X10_trades x3 h)).bind fun r1 =>
      (vc r1.2 9 x1 (f_X9_trade x1 r1.2)).bind fun r2 =>
      if r2.1 = r1.1 then
        f_L_law_J279 S (kH) kE1110 x1 x2 x3 x4 x5 x7 x8 x9 x12 r1.1 (1 : Int32) r2.2
      else
        f_L_law_J279 S (kH) kE1110 x1 x2 x3 x4 x5 x7 x8 x9 x12 r1.1 (0 : Int32) r2.2
    else
      f_L_law_J299 S (kH) kE1110 x1 x2 x3 x4 x5 x7 x8 x9 x10 x11 x12 x13 x14 h
  else
    f_L_law_J299 S (kH) kE1110 x1 x2 x3 x4 x5 x7 x8 x9 x10 x11 x12 x13 x14 h
theorem y_L_law_J243 {g : xG} {h0 : xH} {kH : Nat → Nat → Nat → Nat → Int32 → Int32 → Int32 → xH → Option (Int32 × xH)} {kE1110 : Nat → Nat → Int32 → xH → Option (Int32 × xH)} (hkH : ∀ (x1 : Nat) (x2 : Nat) (x3 : Nat) (x4 : Nat) (x5 : Int32) (x6 : Int32) (x7 : Int32) (h : xH), Y g DL_law h0 false iI (kH x1 x2 x3 x4 x5 x6 x7 h) 37 [some (.ref 1000000), some (.ref x1), some (.ref x2), some (.ref x3), some (.ref x4), some (.int x5), some (.int x6), some (.int x7), none, none, none, none, none, none, none, none, none, none, none] [] h) (hkE1110 : ∀ (x1 : Nat) (x3 : Nat) (x6 : Int32) (h : xH), Y g DL_law h0 false iI (kE1110 x1 x3 x6 h) 1110 [none, some (.ref x1), none, some (.ref x3), none, none, some (.int x6), none, none, none, none, none, none, none, none, none, none, none, none] [] h) (x1 : Nat) (x2 : Nat) (x3 : Nat) (x4 : Nat) (x5 : Int32) (x7 : Int32) (x8 : Int32) (x9 : Int32) (x10 : Int32) (x11 : Int32) (x12 : Nat) (x13 : Int32) (x14 : Int32) (h : xH) : Y g DL_law h0 false iI (f_L_law_J243 (gX g) kH kE1110 x1 x2 x3 x4 x5 x7 x8 x9 x10 x11 x12 x13 x14 h) 243 [some (.ref 1000000), some (.ref x1), some (.ref x2), some (.ref x3), some (.ref x4), some (.int x5), none, some (.int x7), some (.int x8), some (.int x9), some (.int x10), some (.int x11), some (.ref x12), some (.int x13), some (.int x14), none, none, none, none] [] h := by
  unfold f_L_law_J243
  refine Y.op (pc' := 245) (fun _ => X.iload rfl dL_law_243) ?_
  refine Y.op (pc' := 246) (fun _ => X.ic ki_5 dL_law_245) ?_
  refine Y.cmpne 299 (by decide) dL_law_246 ?_ ?_
  · exact y_L_law_J299 hkH hkE1110 x1 x2 x3 x4 x5 x7 x8 x9 x10 x11 x12 x13 x14 h
  · refine Y.op (pc' := 251) (fun _ => X.iload rfl dL_law_249) ?_
    refine Y.op (pc' := 253) (fun _ => X.bp kb_11 dL_law_251) ?_
    refine Y.op (pc' := 254) (fun _ => X.ishr dL_law_253) ?_
    refine Y.op (pc' := 255) (fun _ => X.ic ki_1 dL_law_254) ?_
    refine Y.op (pc' := 256) (fun _ => X.iand dL_law_255) ?_
    refine Y.ifne 299 (by decide) dL_law_256 ?_ ?_
    · exact y_L_law_J299 hkH hkE1110 x1 x2 x3 x4 x5 x7 x8 x9 x10 x11 x12 x13 x14 h
    · refine Y.op (pc' := 260) (fun _ => X.aloadn rfl dL_law_259) ?_
      refine Y.callVi (As := []) lk_L_295 rfl cal_X10_trades vir_X10_trades (Nat.le_of_ble_eq_true rfl) (Nat.le_of_ble_eq_true rfl) rfl rfl rfl (Nat.le_of_ble_eq_true rfl) dL_law_260 (fun _ e => m_X10_trades x3 h _ e) (fun r1 => ?_)
      refine Y.op (pc' := 265) (loc' := [some (.ref 1000000), some (.ref x1), some (.ref x2), some (.ref x3), some (.ref x4), some (.int x5), none, some (.int x7), some (.int x8), some (.int x9), some (.int x10), some (.int x11), some (.ref x12), some (.int x13), some (.int x14), some (.int r1.1), none, none, none]) (fun _ => X.istore (Nat.le_of_ble_eq_true rfl) rfl dL_law_263) ?_
      refine Y.op (pc' := 266) (fun _ => X.aloadn rfl dL_law_265) ?_
      refine Y.callVi (As := []) lk_L_298 rfl cal_X9_trade vir_X9_trade (Nat.le_of_ble_eq_true rfl) (Nat.le_of_ble_eq_true rfl) rfl rfl rfl (Nat.le_of_ble_eq_true rfl) dL_law_266 (fun _ e => m_X9_trade x1 r1.2 _ _ e) (fun r2 => ?_)
      refine Y.op (pc' := 271) (fun _ => X.iload rfl dL_law_269) ?_
      refine Y.cmpne 278 (by decide) dL_law_271 ?_ ?_
      · refine Y.op (pc' := 279) (fun _ => X.ic ki_0 dL_law_278) ?_
        exact Y.fg (y_L_law_J279 hkH hkE1110 x1 x2 x3 x4 x5 x7 x8 x9 x12 r1.1 (0 : Int32) r2.2) (And.intro rfl (And.intro rfl (And.intro rfl (And.intro rfl (And.intro rfl (And.intro rfl (And.intro rfl (And.intro rfl (And.intro rfl (And.intro rfl (And.intro rfl trivial)))))))))))
      · refine Y.op (pc' := 275) (fun _ => X.ic ki_1 dL_law_274) ?_
        refine Y.op (pc' := 279) (fun _ => X.goto 279 (by decide) dL_law_275) ?_
        exact Y.fg (y_L_law_J279 hkH hkE1110 x1 x2 x3 x4 x5 x7 x8 x9 x12 r1.1 (1 : Int32) r2.2) (And.intro rfl (And.intro rfl (And.intro rfl (And.intro rfl (And.intro rfl (And.intro rfl (And.intro rfl (And.intro rfl (And.intro rfl (And.intro rfl (And.intro rfl trivial)))))))))))
def f_L_law_J223 (S : List Int32) (kH : Nat → Nat → Nat → Nat → Int32 → Int32 → Int32 → xH → Option (Int32 × xH)) (kE1110 : Nat → Nat → Int32 → xH → Option (Int32 × xH)) (x1 : Nat) (x2 : Nat) (x3 : Nat) (x4 : Nat) (x5 : Int32) (x7 : Int32) (x8 : Int32) (x9 : Int32) (x10 : Int32) (x12 : Nat) (x13 : Int32) (x14 : Int32) (s0 : Int32) (h : xH) : Option (Int32 × xH) :=
  (gR h 10 x3 7).bind fun v1 =>
  (sI h v1 x10 ((x8 >>> ((6 : Int32) &&& 31)) &&& (31 : Int32))).bind fun h2 =>
  f_L_law_J1017 S (kH) kE1110 x1 x2 x3 x4 x5 s0 x7 x8 x9 x12 x13 x14 h2
theorem y_L_law_J223 {g : xG} {h0 : xH} {kH : Nat → Nat → Nat → Nat → Int32 → Int32 → Int32 → xH → Option (Int32 × xH)} {kE1110 : Nat → Nat → Int32 → xH → Option (Int32 × xH)} (hkH : ∀ (x1 : Nat) (x2 : Nat) (x3 : Nat) (x4 : Nat) (x5 : Int32) (x6 : Int32) (x7 : Int32) (h : xH), Y g DL_law h0 false iI (kH x1 x2 x3 x4 x5 x6 x7 h) 37 [some (.ref 1000000), some (.ref x1), some (.ref x2), some (.ref x3), some (.ref x4), some (.int x5), some (.int x6), some (.int x7), none, none, none, none, none, none, none, none, none, none, none] [] h) (hkE1110 : ∀ (x1 : Nat) (x3 : Nat) (x6 : Int32) (h : xH), Y g DL_law h0 false iI (kE1110 x1 x3 x6 h) 1110 [none, some (.ref x1), none, some (.ref x3), none, none, some (.int x6), none, none, none, none, none, none, none, none, none, none, none, none] [] h) (x1 : Nat) (x2 : Nat) (x3 : Nat) (x4 : Nat) (x5 : Int32) (x7 : Int32) (x8 : Int32) (x9 : Int32) (x10 : Int32) (x12 : Nat) (x13 : Int32) (x14 : Int32) (s0 : Int32) (h : xH) : Y g DL_law h0 false iI (f_L_law_J223 (gX g) kH kE1110 x1 x2 x3 x4 x5 x7 x8 x9 x10 x12 x13 x14 s0 h) 223 [some (.ref 1000000), some (.ref x1), some (.ref x2), some (.ref x3), some (.ref x4), some (.int x5), none, some (.int x7), some (.int x8), some (.int x9), some (.int x10), none, some (.ref x12), some (.int x13), some (.int x14), none, none, none, none] [.int s0] h := by
  unfold f_L_law_J223
  refine Y.op (pc' := 225) (loc' := [some (.ref 1000000), some (.ref x1), some (.ref x2), some (.ref x3), some (.ref x4), some (.int x5), some (.int s0), some (.int x7), some (.int x8), some (.int x9), some (.int x10), none, some (.ref x12), some (.int x13), some (.int x14), none, none, none, none]) (fun _ => X.istore (Nat.le_of_ble_eq_true rfl) rfl dL_law_223) ?_
  refine Y.op (pc' := 226) (fun _ => X.aloadn rfl dL_law_225) ?_
  refine Y.getR fd_L_195 rfl dL_law_226 (fun v1 => ?_)
  refine Y.op (pc' := 231) (fun _ => X.iload rfl dL_law_229) ?_
  refine Y.op (pc' := 233) (fun _ => X.iload rfl dL_law_231) ?_
  refine Y.op (pc' := 235) (fun _ => X.bp kb_6 dL_law_233) ?_
  refine Y.op (pc' := 236) (fun _ => X.ishr dL_law_235) ?_
  refine Y.op (pc' := 238) (fun _ => X.bp kb_31 dL_law_236) ?_
  refine Y.op (pc' := 239) (fun _ => X.iand dL_law_238) ?_
  refine Y.astI dL_law_239 (fun h2 => ?_)
  refine Y.op (pc' := 1017) (fun _ => X.goto 1017 (by decide) dL_law_240) ?_
  exact Y.fg (y_L_law_J1017 hkH hkE1110 x1 x2 x3 x4 x5 s0 x7 x8 x9 x12 x13 x14 h2) (And.intro rfl (And.intro rfl (And.intro rfl (And.intro rfl (And.intro rfl (And.intro rfl (And.intro rfl (And.intro rfl (And.intro rfl (And.intro rfl (And.intro rfl (And.intro rfl (And.intro rfl trivial)))))))))))))
def f_L_law_J80 (S : List Int32) (kH : Nat → Nat → Nat → Nat → Int32 → Int32 → Int32 → xH → Option (Int32 × xH)) (kE1110 : Nat → Nat → Int32 → xH → Option (Int32 × xH)) (x1 : Nat) (x2 : Nat) (x3 : Nat) (x4 : Nat) (x5 : Int32) (x7 : Int32) (x8 : Int32) (s0 : Int32) (h : xH) : Option (Int32 × xH) :=
  (gI h 10 x3 0).bind fun v1 =>
  if v1 = (0 : Int32) then none else
  lt (((x8 &&& (255 : Int32)) - (x8 &&& (255 : Int32)) / v1 * v1)) fun v3 =>
  (gI h 10 x3 1).bind fun v4 =>
  if v4 = (0 : Int32) then none else
  lt ((((x8 >>> ((3 : Int32) &&& 31)) &&& (255 : Int32)) - ((x8 >>> ((3 : Int32) &&& 31)) &&& (255 : Int32)) / v4 * v4)) fun v6 =>
  (vc h 10 x3 (f_X10_like x3 h)).bind fun r7 =>
  (r7.1).bind fun b8 =>
  if s0 = (0 : Int32) then
    (nwC r7.2 (10, dv_X10)).bind fun r12 =>
    (ic r12.2 r12.1 (f_X10_init r12.1 r12.2)).bind fun h13 =>
    (f_L_book x1 x2 r12.1 x8 ((2 : Int32) + (((x8 >>> ((2 : Int32) &&& 31)) &&& (255 : Int32)) - ((x8 >>> ((2 : Int32) &&& 31)) &&& (255 : Int32)) / (3 : Int32) * (3 : Int32))) ((2 : Int32) + (((x8 >>> ((5 : Int32) &&& 31)) &&& (255 : Int32)) - ((x8 >>> ((5 : Int32) &&& 31)) &&& (255 : Int32)) / (3 : Int32) * (3 : Int32))) h13).bind fun r14 =>
    f_L_law_J1017 S (kH) kE1110 x1 x2 r12.1 x4 (0 : Int32) r14.1 x7 x8 s0 b8 (0 : Int32) (0 : Int32) r14.2
  else
    if s0 = (1 : Int32) then
      if ((x8 >>> ((11 : Int32) &&& 31)) &&& (3 : Int32)) = (0 : Int32) then
        (f_L_weight x1 v3 ((x8 >>> ((6 : Int32) &&& 31)) &&& (31 : Int32)) r7.2).bind fun r9 =>
        (gR r9.2 10 x3 7).bind fun v10 =>
        (aI r9.2 v10 v3).bind fun v11 =>
        if r9.1 = v11 then
          f_L_law_J223 S (kH) kE1110 x1 x2 x3 x4 x5 x7 x8 s0 v3 b8 (1 : Int32) (0 : Int32) (1 : Int32) r9.2
        else
          f_L_law_J223 S (kH) kE1110 x1 x2 x3 x4 x5 x7 x8 s0 v3 b8 (1 : Int32) (0 : Int32) (0 : Int32) r9.2
      else
        f_L_law_J243 S (kH) kE1110 x1 x2 x3 x4 x5 x7 x8 s0 v3 v6 b8 (1 : Int32) (0 : Int32) r7.2
    else
      f_L_law_J243 S (kH) kE1110 x1 x2 x3 x4 x5 x7 x8 s0 v3 v6 b8 (1 : Int32) (0 : Int32) r7.2
theorem y_L_law_J80 {g : xG} {h0 : xH} {kH : Nat → Nat → Nat → Nat → Int32 → Int32 → Int32 → xH → Option (Int32 × xH)} {kE1110 : Nat → Nat → Int32 → xH → Option (Int32 × xH)} (hkH : ∀ (x1 : Nat) (x2 : Nat) (x3 : Nat) (x4 : Nat) (x5 : Int32) (x6 : Int32) (x7 : Int32) (h : xH), Y g DL_law h0 false iI (kH x1 x2 x3 x4 x5 x6 x7 h) 37 [some (.ref 1000000), some (.ref x1), some (.ref x2), some (.ref x3), some (.ref x4), some (.int x5), some (.int x6), some (.int x7), none, none, none, none, none, none, none, none, none, none, none] [] h) (hkE1110 : ∀ (x1 : Nat) (x3 : Nat) (x6 : Int32) (h : xH), Y g DL_law h0 false iI (kE1110 x1 x3 x6 h) 1110 [none, some (.ref x1), none, some (.ref x3), none, none, some (.int x6), none, none, none, none, none, none, none, none, none, none, none, none] [] h) (x1 : Nat) (x2 : Nat) (x3 : Nat) (x4 : Nat) (x5 : Int32) (x7 : Int32) (x8 : Int32) (s0 : Int32) (h : xH) : Y g DL_law h0 false iI (f_L_law_J80 (gX g) kH kE1110 x1 x2 x3 x4 x5 x7 x8 s0 h) 80 [some (.ref 1000000), some (.ref x1), some (.ref x2), some (.ref x3), some (.ref x4), some (.int x5), none, some (.int x7), some (.int x8), none, none, none, none, none, none, none, none, none, none] [.int s0] h := by
  unfold f_L_law_J80
  refine Y.op (pc' := 82) (loc' := [some (.ref 1000000), some (.ref x1), some (.ref x2), some (.ref x3), some (.ref x4), some (.int x5), none, some (.int x7), some (.int x8), some (.int s0), none, none, none, none, none, none, none, none, none]) (fun _ => X.istore (Nat.le_of_ble_eq_true rfl) rfl dL_law_80) ?_
  refine Y.op (pc' := 84) (fun _ => X.iload rfl dL_law_82) ?_
  refine Y.op (pc' := 87) (fun _ => X.sp ks_255 dL_law_84) ?_
  refine Y.op (pc' := 88) (fun _ => X.iand dL_law_87) ?_
  refine Y.op (pc' := 89) (fun _ => X.aloadn rfl dL_law_88) ?_
  refine Y.getI fd_L_138 rfl dL_law_89 (fun v1 => ?_)
  refine Y.ite (fun _ => Y.nothing) (fun z2 => ?_)
  refine Y.op (pc' := 93) (fun _ => X.irem z2 dL_law_92) ?_
  refine Y.top (fun v3 => ?_)
  refine Y.op (pc' := 95) (loc' := [some (.ref 1000000), some (.ref x1), some (.ref x2), some (.ref x3), some (.ref x4), some (.int x5), none, some (.int x7), some (.int x8), some (.int s0), some (.int v3), none, none, none, none, none, none, none, none]) (fun _ => X.istore (Nat.le_of_ble_eq_true rfl) rfl dL_law_93) ?_
  refine Y.op (pc' := 97) (fun _ => X.iload rfl dL_law_95) ?_
  refine Y.op (pc' := 98) (fun _ => X.ic ki_3 dL_law_97) ?_
  refine Y.op (pc' := 99) (fun _ => X.ishr dL_law_98) ?_
  refine Y.op (pc' := 102) (fun _ => X.sp ks_255 dL_law_99) ?_
  refine Y.op (pc' := 103) (fun _ => X.iand dL_law_102) ?_
  refine Y.op (pc' := 104) (fun _ => X.aloadn rfl dL_law_103) ?_
  refine Y.getI fd_L_144 rfl dL_law_104 (fun v4 => ?_)
  refine Y.ite (fun _ => Y.nothing) (fun z5 => ?_)
  refine Y.op (pc' := 108) (fun _ => X.irem z5 dL_law_107) ?_
  refine Y.top (fun v6 => ?_)
  refine Y.op (pc' := 110) (loc' := [some (.ref 1000000), some (.ref x1), some (.ref x2), some (.ref x3), some (.ref x4), some (.int x5), none, some (.int x7), some (.int x8), some (.int s0), some (.int v3), some (.int v6), none, none, none, none, none, none, none]) (fun _ => X.istore (Nat.le_of_ble_eq_true rfl) rfl dL_law_108) ?_
  refine Y.op (pc' := 111) (fun _ => X.aloadn rfl dL_law_110) ?_
  refine Y.callVn (As := []) lk_L_226 rfl cal_X10_like vir_X10_like (Nat.le_of_ble_eq_true rfl) (Nat.le_of_ble_eq_true rfl) rfl rfl rfl (Nat.le_of_ble_eq_true rfl) dL_law_111 (fun _ e => m_X10_like x3 h _ e) (fun r7 => ?_)
  refine Y.un (fun b8 => ?_)
  refine Y.op (pc' := 116) (loc' := [some (.ref 1000000), some (.ref x1), some (.ref x2), some (.ref x3), some (.ref x4), some (.int x5), none, some (.int x7), some (.int x8), some (.int s0), some (.int v3), some (.int v6), some (.ref b8), none, none, none, none, none, none]) (fun _ => X.astore (Nat.le_of_ble_eq_true rfl) rfl dL_law_114) ?_
  refine Y.op (pc' := 117) (fun _ => X.ic ki_1 dL_law_116) ?_
  refine Y.op (pc' := 119) (loc' := [some (.ref 1000000), some (.ref x1), some (.ref x2), some (.ref x3), some (.ref x4), some (.int x5), none, some (.int x7), some (.int x8), some (.int s0), some (.int v3), some (.int v6), some (.ref b8), some (.int (1 : Int32)), none, none, none, none, none]) (fun _ => X.istore (Nat.le_of_ble_eq_true rfl) rfl dL_law_117) ?_
  refine Y.op (pc' := 120) (fun _ => X.ic ki_0 dL_law_119) ?_
  refine Y.op (pc' := 122) (loc' := [some (.ref 1000000), some (.ref x1), some (.ref x2), some (.ref x3), some (.ref x4), some (.int x5), none, some (.int x7), some (.int x8), some (.int s0), some (.int v3), some (.int v6), some (.ref b8), some (.int (1 : Int32)), some (.int (0 : Int32)), none, none, none, none]) (fun _ => X.istore (Nat.le_of_ble_eq_true rfl) rfl dL_law_120) ?_
  refine Y.op (pc' := 124) (fun _ => X.iload rfl dL_law_122) ?_
  refine Y.ifne 178 (by decide) dL_law_124 ?_ ?_
  · refine Y.op (pc' := 180) (fun _ => X.iload rfl dL_law_178) ?_
    refine Y.op (pc' := 181) (fun _ => X.ic ki_1 dL_law_180) ?_
    refine Y.cmpne 243 (by decide) dL_law_181 ?_ ?_
    · exact y_L_law_J243 hkH hkE1110 x1 x2 x3 x4 x5 x7 x8 s0 v3 v6 b8 (1 : Int32) (0 : Int32) r7.2
    · refine Y.op (pc' := 186) (fun _ => X.iload rfl dL_law_184) ?_
      refine Y.op (pc' := 188) (fun _ => X.bp kb_11 dL_law_186) ?_
      refine Y.op (pc' := 189) (fun _ => X.ishr dL_law_188) ?_
      refine Y.op (pc' := 190) (fun _ => X.ic ki_3 dL_law_189) ?_
      refine Y.op (pc' := 191) (fun _ => X.iand dL_law_190) ?_
      refine Y.ifne 243 (by decide) dL_law_191 ?_ ?_
      · exact y_L_law_J243 hkH hkE1110 x1 x2 x3 x4 x5 x7 x8 s0 v3 v6 b8 (1 : Int32) (0 : Int32) r7.2
      · refine Y.op (pc' := 195) (fun _ => X.aloadn rfl dL_law_194) ?_
        refine Y.op (pc' := 197) (fun _ => X.iload rfl dL_law_195) ?_
        refine Y.op (pc' := 199) (fun _ => X.iload rfl dL_law_197) ?_
        refine Y.op (pc' := 201) (fun _ => X.bp kb_6 dL_law_199) ?_
        refine Y.op (pc' := 202) (fun _ => X.ishr dL_law_201) ?_
        refine Y.op (pc' := 204) (fun _ => X.bp kb_31 dL_law_202) ?_
        refine Y.op (pc' := 205) (fun _ => X.iand dL_law_204) ?_
        refine Y.callSWi (As := [.ref x1, .int v3, .int ((x8 >>> ((6 : Int32) &&& 31)) &&& (31 : Int32))]) lkw_L_weight rfl calw_L_weight staw_L_weight (Nat.le_of_ble_eq_true rfl) rfl rfl (Nat.le_of_ble_eq_true rfl) dL_law_205 (fun _ e => m_L_weight x1 v3 ((x8 >>> ((6 : Int32) &&& 31)) &&& (31 : Int32)) r7.2 _ e) (fun r9 => ?_)
        refine Y.op (pc' := 209) (fun _ => X.aloadn rfl dL_law_208) ?_
        refine Y.getR fd_L_195 rfl dL_law_209 (fun v10 => ?_)
        refine Y.op (pc' := 214) (fun _ => X.iload rfl dL_law_212) ?_
        refine Y.aldI dL_law_214 (fun v11 => ?_)
        refine Y.cmpne 222 (by decide) dL_law_215 ?_ ?_
        · refine Y.op (pc' := 223) (fun _ => X.ic ki_0 dL_law_222) ?_
          exact Y.fg (y_L_law_J223 hkH hkE1110 x1 x2 x3 x4 x5 x7 x8 s0 v3 b8 (1 : Int32) (0 : Int32) (0 : Int32) r9.2) (And.intro rfl (And.intro rfl (And.intro rfl (And.intro rfl (And.intro rfl (And.intro rfl (And.intro rfl (And.intro rfl (And.intro rfl (And.intro rfl (And.intro rfl (And.intro rfl (And.intro rfl trivial)))))))))))))
        · refine Y.op (pc' := 219) (fun _ => X.ic ki_1 dL_law_218) ?_
          refine Y.op (pc' := 223) (fun _ => X.goto 223 (by decide) dL_law_219) ?_
          exact Y.fg (y_L_law_J223 hkH hkE1110 x1 x2 x3 x4 x5 x7 x8 s0 v3 b8 (1 : Int32) (0 : Int32) (1 : Int32) r9.2) (And.intro rfl (And.intro rfl (And.intro rfl (And.intro rfl (And.intro rfl (And.intro rfl (And.intro rfl (And.intro rfl (And.intro rfl (And.intro rfl (And.intro rfl (And.intro rfl (And.intro rfl trivial)))))))))))))
  · refine Y.new wn_L_139 rfl rfl dL_law_127 (fun r12 => ?_)
    refine Y.op (pc' := 131) (fun _ => X.dup rfl dL_law_130) ?_
    refine Y.callIv (As := []) lk_L_288 rfl cal_X10_init ini_X10_init (Nat.le_of_ble_eq_true rfl) rfl rfl (Nat.le_of_ble_eq_true rfl) dL_law_131 (fun _ e => m_X10_init r12.1 r12.2 _ e) (fun h13 => ?_)
    refine Y.op (pc' := 135) (loc' := [some (.ref 1000000), some (.ref x1), some (.ref x2), some (.ref r12.1), some (.ref x4), some (.int x5), none, some (.int x7), some (.int x8), some (.int s0), some (.int v3), some (.int v6), some (.ref b8), some (.int (1 : Int32)), some (.int (0 : Int32)), none, none, none, none]) (fun _ => X.astoren (Nat.le_of_ble_eq_true rfl) rfl dL_law_134) ?_
    refine Y.op (pc' := 136) (fun _ => X.aloadn rfl dL_law_135) ?_
    refine Y.op (pc' := 137) (fun _ => X.aloadn rfl dL_law_136) ?_
    refine Y.op (pc' := 138) (fun _ => X.aloadn rfl dL_law_137) ?_
    refine Y.op (pc' := 140) (fun _ => X.iload rfl dL_law_138) ?_
    refine Y.op (pc' := 141) (fun _ => X.ic ki_2 dL_law_140) ?_
    refine Y.op (pc' := 143) (fun _ => X.iload rfl dL_law_141) ?_
    refine Y.op (pc' := 144) (fun _ => X.ic ki_2 dL_law_143) ?_
    refine Y.op (pc' := 145) (fun _ => X.ishr dL_law_144) ?_
    refine Y.op (pc' := 148) (fun _ => X.sp ks_255 dL_law_145) ?_
    refine Y.op (pc' := 149) (fun _ => X.iand dL_law_148) ?_
    refine Y.op (pc' := 150) (fun _ => X.ic ki_3 dL_law_149) ?_
    refine Y.op (pc' := 151) (fun _ => X.irem (by decide) dL_law_150) ?_
    refine Y.op (pc' := 152) (fun _ => X.iadd dL_law_151) ?_
    refine Y.op (pc' := 153) (fun _ => X.ic ki_2 dL_law_152) ?_
    refine Y.op (pc' := 155) (fun _ => X.iload rfl dL_law_153) ?_
    refine Y.op (pc' := 156) (fun _ => X.ic ki_5 dL_law_155) ?_
    refine Y.op (pc' := 157) (fun _ => X.ishr dL_law_156) ?_
    refine Y.op (pc' := 160) (fun _ => X.sp ks_255 dL_law_157) ?_
    refine Y.op (pc' := 161) (fun _ => X.iand dL_law_160) ?_
    refine Y.op (pc' := 162) (fun _ => X.ic ki_3 dL_law_161) ?_
    refine Y.op (pc' := 163) (fun _ => X.irem (by decide) dL_law_162) ?_
    refine Y.op (pc' := 164) (fun _ => X.iadd dL_law_163) ?_
    refine Y.callSi (As := [.ref x1, .ref x2, .ref r12.1, .int x8, .int ((2 : Int32) + (((x8 >>> ((2 : Int32) &&& 31)) &&& (255 : Int32)) - ((x8 >>> ((2 : Int32) &&& 31)) &&& (255 : Int32)) / (3 : Int32) * (3 : Int32))), .int ((2 : Int32) + (((x8 >>> ((5 : Int32) &&& 31)) &&& (255 : Int32)) - ((x8 >>> ((5 : Int32) &&& 31)) &&& (255 : Int32)) / (3 : Int32) * (3 : Int32)))]) lk_L_289 rfl cal_L_book sta_L_book (Nat.le_of_ble_eq_true rfl) rfl rfl (Nat.le_of_ble_eq_true rfl) dL_law_164 (fun _ e => m_L_book x1 x2 r12.1 x8 ((2 : Int32) + (((x8 >>> ((2 : Int32) &&& 31)) &&& (255 : Int32)) - ((x8 >>> ((2 : Int32) &&& 31)) &&& (255 : Int32)) / (3 : Int32) * (3 : Int32))) ((2 : Int32) + (((x8 >>> ((5 : Int32) &&& 31)) &&& (255 : Int32)) - ((x8 >>> ((5 : Int32) &&& 31)) &&& (255 : Int32)) / (3 : Int32) * (3 : Int32))) h13 _ e) (fun r14 => ?_)
    refine Y.op (pc' := 169) (loc' := [some (.ref 1000000), some (.ref x1), some (.ref x2), some (.ref r12.1), some (.ref x4), some (.int x5), some (.int r14.1), some (.int x7), some (.int x8), some (.int s0), some (.int v3), some (.int v6), some (.ref b8), some (.int (1 : Int32)), some (.int (0 : Int32)), none, none, none, none]) (fun _ => X.istore (Nat.le_of_ble_eq_true rfl) rfl dL_law_167) ?_
    refine Y.op (pc' := 170) (fun _ => X.ic ki_0 dL_law_169) ?_
    refine Y.op (pc' := 172) (loc' := [some (.ref 1000000), some (.ref x1), some (.ref x2), some (.ref r12.1), some (.ref x4), some (.int (0 : Int32)), some (.int r14.1), some (.int x7), some (.int x8), some (.int s0), some (.int v3), some (.int v6), some (.ref b8), some (.int (1 : Int32)), some (.int (0 : Int32)), none, none, none, none]) (fun _ => X.istore (Nat.le_of_ble_eq_true rfl) rfl dL_law_170) ?_
    refine Y.op (pc' := 173) (fun _ => X.ic ki_0 dL_law_172) ?_
    refine Y.op (pc' := 175) (loc' := [some (.ref 1000000), some (.ref x1), some (.ref x2), some (.ref r12.1), some (.ref x4), some (.int (0 : Int32)), some (.int r14.1), some (.int x7), some (.int x8), some (.int s0), some (.int v3), some (.int v6), some (.ref b8), some (.int (0 : Int32)), some (.int (0 : Int32)), none, none, none, none]) (fun _ => X.istore (Nat.le_of_ble_eq_true rfl) rfl dL_law_173) ?_
    refine Y.op (pc' := 1017) (fun _ => X.goto 1017 (by decide) dL_law_175) ?_
    exact Y.fg (y_L_law_J1017 hkH hkE1110 x1 x2 r12.1 x4 (0 : Int32) r14.1 x7 x8 s0 b8 (0 : Int32) (0 : Int32) r14.2) (And.intro rfl (And.intro rfl (And.intro rfl (And.intro rfl (And.intro rfl (And.intro rfl (And.intro rfl (And.intro rfl (And.intro rfl (And.intro rfl (And.intro rfl (And.intro rfl (And.intro rfl trivial)))))))))))))
def f_L_law_L37 (S : List Int32) (kE1110 : Nat → Nat → Int32 → xH → Option (Int32 × xH)) : Nat → Nat → Nat → Nat → Nat → Int32 → Int32 → Int32 → xH → Option (Int32 × xH)
  | 0 => fun _ _ _ _ _ _ _ _ => none
  | n + 1 => fun x1 x2 x3 x4 x5 x6 x7 h =>
    if x7 ≥ (Int32.ofNat S.length) then
      kE1110 x1 x3 x6 h
    else
      if x7 ≥ (12 : Int32) then
        kE1110 x1 x3 x6 h
      else
        if x6 = (0 : Int32) then
          kE1110 x1 x3 x6 h
        else
          (sc S x7).bind fun v2 =>
          lt ((v2 >>> ((3 : Int32) &&& 31))) fun v3 =>
          if x7 = (0 : Int32) then
            f_L_law_J80 S (f_L_law_L37 S kE1110 n) kE1110 x1 x2 x3 x4 x5 x7 v3 (0 : Int32) h
          else
            (sc S x7).bind fun v4 =>
            f_L_law_J80 S (f_L_law_L37 S kE1110 n) kE1110 x1 x2 x3 x4 x5 x7 v3 (v4 &&& (7 : Int32)) h
theorem y_L_law_L37 {g : xG} {h0 : xH} {kE1110 : Nat → Nat → Int32 → xH → Option (Int32 × xH)} (hkE1110 : ∀ (x1 : Nat) (x3 : Nat) (x6 : Int32) (h : xH), Y g DL_law h0 false iI (kE1110 x1 x3 x6 h) 1110 [none, some (.ref x1), none, some (.ref x3), none, none, some (.int x6), none, none, none, none, none, none, none, none, none, none, none, none] [] h) : ∀ (n : Nat) (x1 : Nat) (x2 : Nat) (x3 : Nat) (x4 : Nat) (x5 : Int32) (x6 : Int32) (x7 : Int32) (h : xH), Y g DL_law h0 false iI (f_L_law_L37 (gX g) kE1110 n x1 x2 x3 x4 x5 x6 x7 h) 37 [some (.ref 1000000), some (.ref x1), some (.ref x2), some (.ref x3), some (.ref x4), some (.int x5), some (.int x6), some (.int x7), none, none, none, none, none, none, none, none, none, none, none] [] h := by
  intro n
  induction n with
  | zero => intro x1 x2 x3 x4 x5 x6 x7 h; exact Y.nothing
  | succ n ih =>
    intro x1 x2 x3 x4 x5 x6 x7 h
    unfold f_L_law_L37
    refine Y.op (pc' := 39) (fun _ => X.iload rfl dL_law_37) ?_
    refine Y.op (pc' := 40) (fun _ => X.aloadn rfl dL_law_39) ?_
    refine Y.op (pc' := 41) (fun _ => X.scrLen dL_law_40) ?_
    refine Y.cmpge 1110 (by decide) dL_law_41 ?_ ?_
    · exact Y.fg (hkE1110 x1 x3 x6 h) (And.intro rfl (And.intro rfl (And.intro rfl trivial)))
    · refine Y.op (pc' := 46) (fun _ => X.iload rfl dL_law_44) ?_
      refine Y.op (pc' := 48) (fun _ => X.bp kb_12 dL_law_46) ?_
      refine Y.cmpge 1110 (by decide) dL_law_48 ?_ ?_
      · exact Y.fg (hkE1110 x1 x3 x6 h) (And.intro rfl (And.intro rfl (And.intro rfl trivial)))
      · refine Y.op (pc' := 53) (fun _ => X.iload rfl dL_law_51) ?_
        refine Y.ifeq 1110 (by decide) dL_law_53 ?_ ?_
        · exact Y.fg (hkE1110 x1 x3 x6 h) (And.intro rfl (And.intro rfl (And.intro rfl trivial)))
        · refine Y.op (pc' := 57) (fun _ => X.aloadn rfl dL_law_56) ?_
          refine Y.op (pc' := 59) (fun _ => X.iload rfl dL_law_57) ?_
          refine Y.sald dL_law_59 (fun v2 => ?_)
          refine Y.op (pc' := 61) (fun _ => X.ic ki_3 dL_law_60) ?_
          refine Y.op (pc' := 62) (fun _ => X.ishr dL_law_61) ?_
          refine Y.top (fun v3 => ?_)
          refine Y.op (pc' := 64) (loc' := [some (.ref 1000000), some (.ref x1), some (.ref x2), some (.ref x3), some (.ref x4), some (.int x5), some (.int x6), some (.int x7), some (.int v3), none, none, none, none, none, none, none, none, none, none]) (fun _ => X.istore (Nat.le_of_ble_eq_true rfl) rfl dL_law_62) ?_
          refine Y.op (pc' := 66) (fun _ => X.iload rfl dL_law_64) ?_
          refine Y.ifne 73 (by decide) dL_law_66 ?_ ?_
          · refine Y.op (pc' := 74) (fun _ => X.aloadn rfl dL_law_73) ?_
            refine Y.op (pc' := 76) (fun _ => X.iload rfl dL_law_74) ?_
            refine Y.sald dL_law_76 (fun v4 => ?_)
            refine Y.op (pc' := 79) (fun _ => X.bp kb_7 dL_law_77) ?_
            refine Y.op (pc' := 80) (fun _ => X.iand dL_law_79) ?_
            exact Y.fg (y_L_law_J80 ih hkE1110 x1 x2 x3 x4 x5 x7 v3 (v4 &&& (7 : Int32)) h) (And.intro rfl (And.intro rfl (And.intro rfl (And.intro rfl (And.intro rfl (And.intro rfl (And.intro rfl (And.intro rfl trivial))))))))
          · refine Y.op (pc' := 70) (fun _ => X.ic ki_0 dL_law_69) ?_
            refine Y.op (pc' := 80) (fun _ => X.goto 80 (by decide) dL_law_70) ?_
            exact Y.fg (y_L_law_J80 ih hkE1110 x1 x2 x3 x4 x5 x7 v3 (0 : Int32) h) (And.intro rfl (And.intro rfl (And.intro rfl (And.intro rfl (And.intro rfl (And.intro rfl (And.intro rfl (And.intro rfl trivial))))))))
def f_L_law (S : List Int32) (h : xH) : Option (Int32 × xH) :=
  (nwC h (9, dv_X9)).bind fun r1 =>
  (ic r1.2 r1.1 (f_X9_init r1.1 r1.2)).bind fun h2 =>
  (nwI h2 (8 : Int32)).bind fun r3 =>
  (nwC r3.2 (10, dv_X10)).bind fun r4 =>
  (ic r4.2 r4.1 (f_X10_init r4.1 r4.2)).bind fun h5 =>
  (nwB h5 (40 : Int32)).bind fun r6 =>
  f_L_law_L37 S (f_L_law_J1110 S) 5000 r1.1 r3.1 r4.1 r6.1 (0 : Int32) (1 : Int32) (0 : Int32) r6.2
theorem y_L_law {g : xG} {h0 : xH} (h : xH) : Y g DL_law h0 false iI (f_L_law (gX g) h) 0 [some (.ref 1000000), none, none, none, none, none, none, none, none, none, none, none, none, none, none, none, none, none, none] [] h := by
  unfold f_L_law
  refine Y.new wn_L_16 rfl rfl dL_law_0 (fun r1 => ?_)
  refine Y.op (pc' := 4) (fun _ => X.dup rfl dL_law_3) ?_
  refine Y.callIv (As := []) lk_L_287 rfl cal_X9_init ini_X9_init (Nat.le_of_ble_eq_true rfl) rfl rfl (Nat.le_of_ble_eq_true rfl) dL_law_4 (fun _ e => m_X9_init r1.1 r1.2 _ e) (fun h2 => ?_)
  refine Y.op (pc' := 8) (loc' := [some (.ref 1000000), some (.ref r1.1), none, none, none, none, none, none, none, none, none, none, none, none, none, none, none, none, none]) (fun _ => X.astoren (Nat.le_of_ble_eq_true rfl) rfl dL_law_7) ?_
  refine Y.op (pc' := 10) (fun _ => X.bp kb_8 dL_law_8) ?_
  refine Y.newI waI dL_law_10 (fun r3 => ?_)
  refine Y.op (pc' := 13) (loc' := [some (.ref 1000000), some (.ref r1.1), some (.ref r3.1), none, none, none, none, none, none, none, none, none, none, none, none, none, none, none, none]) (fun _ => X.astoren (Nat.le_of_ble_eq_true rfl) rfl dL_law_12) ?_
  refine Y.new wn_L_139 rfl rfl dL_law_13 (fun r4 => ?_)
  refine Y.op (pc' := 17) (fun _ => X.dup rfl dL_law_16) ?_
  refine Y.callIv (As := []) lk_L_288 rfl cal_X10_init ini_X10_init (Nat.le_of_ble_eq_true rfl) rfl rfl (Nat.le_of_ble_eq_true rfl) dL_law_17 (fun _ e => m_X10_init r4.1 r4.2 _ e) (fun h5 => ?_)
  refine Y.op (pc' := 21) (loc' := [some (.ref 1000000), some (.ref r1.1), some (.ref r3.1), some (.ref r4.1), none, none, none, none, none, none, none, none, none, none, none, none, none, none, none]) (fun _ => X.astoren (Nat.le_of_ble_eq_true rfl) rfl dL_law_20) ?_
  refine Y.op (pc' := 23) (fun _ => X.bp kb_40 dL_law_21) ?_
  refine Y.newB wq_L_139 rfl dL_law_23 (fun r6 => ?_)
  refine Y.op (pc' := 28) (loc' := [some (.ref 1000000), some (.ref r1.1), some (.ref r3.1), some (.ref r4.1), some (.ref r6.1), none, none, none, none, none, none, none, none, none, none, none, none, none, none]) (fun _ => X.astore (Nat.le_of_ble_eq_true rfl) rfl dL_law_26) ?_
  refine Y.op (pc' := 29) (fun _ => X.ic ki_0 dL_law_28) ?_
  refine Y.op (pc' := 31) (loc' := [some (.ref 1000000), some (.ref r1.1), some (.ref r3.1), some (.ref r4.1), some (.ref r6.1), some (.int (0 : Int32)), none, none, none, none, none, none, none, none, none, none, none, none, none]) (fun _ => X.istore (Nat.le_of_ble_eq_true rfl) rfl dL_law_29) ?_
  refine Y.op (pc' := 32) (fun _ => X.ic ki_1 dL_law_31) ?_
  refine Y.op (pc' := 34) (loc' := [some (.ref 1000000), some (.ref r1.1), some (.ref r3.1), some (.ref r4.1), some (.ref r6.1), some (.int (0 : Int32)), some (.int (1 : Int32)), none, none, none, none, none, none, none, none, none, none, none, none]) (fun _ => X.istore (Nat.le_of_ble_eq_true rfl) rfl dL_law_32) ?_
  refine Y.op (pc' := 35) (fun _ => X.ic ki_0 dL_law_34) ?_
  refine Y.op (pc' := 37) (loc' := [some (.ref 1000000), some (.ref r1.1), some (.ref r3.1), some (.ref r4.1), some (.ref r6.1), some (.int (0 : Int32)), some (.int (1 : Int32)), some (.int (0 : Int32)), none, none, none, none, none, none, none, none, none, none, none]) (fun _ => X.istore (Nat.le_of_ble_eq_true rfl) rfl dL_law_35) ?_
  exact y_L_law_L37 (y_L_law_J1110) 5000 r1.1 r3.1 r4.1 r6.1 (0 : Int32) (1 : Int32) (0 : Int32) r6.2
