/-! the law's blocks, one for each call (wip/whole/gen/mk90.py) -/
section LB
variable {p : Program} {l : Launch} {e : Env} {s : State} {m : MethodId} {below : List Frame} {meth : Method} {c : Code} {b L : Nat} {xs : Nat → Int32} {Q : State → Prop} {D : va_G} {ls : Array Slot} {q1 q2 n : Nat}
set_option maxHeartbeats 1000000 in
theorem lb_24 (C0 : lw_At p s m meth c b L xs) (hAm : Amb_ D s) (hL : L ≤ 3072) (hn : 6 * n + 6 ≤ L) (hl : lv_has ls 4 [(0, .ref b), (1, .ref q1), (2, .ref q2), (3, .int (nI (6 * n)))]) (kk : LG_ p l e s m below meth c b D Q ls q1 q2 (n + 1) 1320) : LG_ p l e s m below meth c b D Q ls q1 q2 n 1004 := by
  intro α β gX gM H locs cells slots hR hLW hq1 hq2 hce hsl
  obtain ⟨hx, hb, hr, hml, hown, hts, hX, hbl, hlocks, hgv⟩ := id C0
  obtain ⟨r, gX2, gM2, f1, f2, hR2, b1, b2, b3, b4⟩ := op_cancel (xs (6 * n + 1)) gX gM n (by omega) hR
  have M1 := t9_cancel 0 (xs (6 * n + 1)) gX
  have M2 := t10_cancel 0 (xs (6 * n + 1)) gM
  rw [f1] at M1
  rw [f2] at M2
  refine lv_aload_n hx hb dL_law_1004 rfl (lv_at hl 1 rfl) ?_
  refine lw_arg (6 * n) 1 C0 hLW.2.2.2.2.2 hL (by omega) hl (by decide) dL_law_1005 dL_law_1006 dL_law_1007 dL_law_1008 dL_law_1009 ?_
  refine lw_call (As := [xs (6 * n + 1)]) (t1 := 9) (q1 := q1) (rest := []) (r := r) (g1 := gX2) M1 cw_cX9_cancel mlL_115 dL_law_1010 rfl (by decide) (by decide) C0 hAm hl.1 hLW hq1 (by decide) (by omega) (by omega) rfl (fun α2 H2 locs2 hLW2 hq12 => ?_)
  have hLW2 := LW_swap hLW2
  refine lv_aload_n hx hb dL_law_1013 rfl (lv_at hl 2 rfl) ?_
  refine lw_arg (6 * n) 1 C0 hLW2.2.2.2.2.2 hL (by omega) hl (by decide) dL_law_1014 dL_law_1015 dL_law_1016 dL_law_1017 dL_law_1018 ?_
  refine lw_call (As := [xs (6 * n + 1)]) (t1 := 10) (q1 := q2) (rest := [.int r]) (r := r) (g1 := gM2) M2 cw_cX10_cancel mlL_118 dL_law_1019 rfl (by decide) (by decide) C0 hAm hl.1 hLW2 hq2 (Nat.le_of_ble_eq_true rfl) (by omega) (by omega) rfl (fun β2 H3 locs3 hLW3 hq22 => ?_)
  refine lv_icmp_eq (tgt := 1320) hx hb dL_law_1022 (by decide) (fun _ => ?_) (fun h => absurd rfl h)
  exact kk α2 β2 gX2 gM2 H3 locs3 _ _ hR2 (LW_swap hLW3) hq12 hq22 (by omega) (by omega)
set_option maxHeartbeats 1000000 in
theorem lb_25 (C0 : lw_At p s m meth c b L xs) (hAm : Amb_ D s) (hL : L ≤ 3072) (hn : 6 * n + 6 ≤ L) (hl : lv_has ls 4 [(0, .ref b), (1, .ref q1), (2, .ref q2), (3, .int (nI (6 * n)))]) (kk : LG_ p l e s m below meth c b D Q ls q1 q2 (n + 1) 1320) : LG_ p l e s m below meth c b D Q ls q1 q2 n 1027 := by
  intro α β gX gM H locs cells slots hR hLW hq1 hq2 hce hsl
  obtain ⟨hx, hb, hr, hml, hown, hts, hX, hbl, hlocks, hgv⟩ := id C0
  obtain ⟨r, gX2, gM2, f1, f2, hR2, b1, b2, b3, b4⟩ := op_jam (xs (6 * n + 1)) gX gM n (by omega) hR
  have M1 := t9_jam 0 (xs (6 * n + 1)) gX
  have M2 := t10_jam 0 (xs (6 * n + 1)) gM
  rw [f1] at M1
  rw [f2] at M2
  refine lv_aload_n hx hb dL_law_1027 rfl (lv_at hl 1 rfl) ?_
  refine lw_arg (6 * n) 1 C0 hLW.2.2.2.2.2 hL (by omega) hl (by decide) dL_law_1028 dL_law_1029 dL_law_1030 dL_law_1031 dL_law_1032 ?_
  refine lw_call (As := [xs (6 * n + 1)]) (t1 := 9) (q1 := q1) (rest := []) (r := r) (g1 := gX2) M1 cw_cX9_jam mlL_119 dL_law_1033 rfl (by decide) (by decide) C0 hAm hl.1 hLW hq1 (by decide) (by omega) (by omega) rfl (fun α2 H2 locs2 hLW2 hq12 => ?_)
  have hLW2 := LW_swap hLW2
  refine lv_aload_n hx hb dL_law_1036 rfl (lv_at hl 2 rfl) ?_
  refine lw_arg (6 * n) 1 C0 hLW2.2.2.2.2.2 hL (by omega) hl (by decide) dL_law_1037 dL_law_1038 dL_law_1039 dL_law_1040 dL_law_1041 ?_
  refine lw_call (As := [xs (6 * n + 1)]) (t1 := 10) (q1 := q2) (rest := [.int r]) (r := r) (g1 := gM2) M2 cw_cX10_jam mlL_122 dL_law_1042 rfl (by decide) (by decide) C0 hAm hl.1 hLW2 hq2 (Nat.le_of_ble_eq_true rfl) (by omega) (by omega) rfl (fun β2 H3 locs3 hLW3 hq22 => ?_)
  refine lv_icmp_eq (tgt := 1320) hx hb dL_law_1045 (by decide) (fun _ => ?_) (fun h => absurd rfl h)
  exact kk α2 β2 gX2 gM2 H3 locs3 _ _ hR2 (LW_swap hLW3) hq12 hq22 (by omega) (by omega)
set_option maxHeartbeats 1000000 in
theorem lb_26 (C0 : lw_At p s m meth c b L xs) (hAm : Amb_ D s) (hL : L ≤ 3072) (hn : 6 * n + 6 ≤ L) (hl : lv_has ls 4 [(0, .ref b), (1, .ref q1), (2, .ref q2), (3, .int (nI (6 * n)))]) (kk : LG_ p l e s m below meth c b D Q ls q1 q2 (n + 1) 1320) : LG_ p l e s m below meth c b D Q ls q1 q2 n 1050 := by
  intro α β gX gM H locs cells slots hR hLW hq1 hq2 hce hsl
  obtain ⟨hx, hb, hr, hml, hown, hts, hX, hbl, hlocks, hgv⟩ := id C0
  obtain ⟨r, gX2, gM2, f1, f2, hR2, b1, b2, b3, b4⟩ := op_clear (xs (6 * n + 1)) gX gM n (by omega) hR
  have M1 := t9_clear 0 (xs (6 * n + 1)) gX
  have M2 := t10_clear 0 (xs (6 * n + 1)) gM
  rw [f1] at M1
  rw [f2] at M2
  refine lv_aload_n hx hb dL_law_1050 rfl (lv_at hl 1 rfl) ?_
  refine lw_arg (6 * n) 1 C0 hLW.2.2.2.2.2 hL (by omega) hl (by decide) dL_law_1051 dL_law_1052 dL_law_1053 dL_law_1054 dL_law_1055 ?_
  refine lw_call (As := [xs (6 * n + 1)]) (t1 := 9) (q1 := q1) (rest := []) (r := r) (g1 := gX2) M1 cw_cX9_clear mlL_123 dL_law_1056 rfl (by decide) (by decide) C0 hAm hl.1 hLW hq1 (by decide) (by omega) (by omega) rfl (fun α2 H2 locs2 hLW2 hq12 => ?_)
  have hLW2 := LW_swap hLW2
  refine lv_aload_n hx hb dL_law_1059 rfl (lv_at hl 2 rfl) ?_
  refine lw_arg (6 * n) 1 C0 hLW2.2.2.2.2.2 hL (by omega) hl (by decide) dL_law_1060 dL_law_1061 dL_law_1062 dL_law_1063 dL_law_1064 ?_
  refine lw_call (As := [xs (6 * n + 1)]) (t1 := 10) (q1 := q2) (rest := [.int r]) (r := r) (g1 := gM2) M2 cw_cX10_clear mlL_126 dL_law_1065 rfl (by decide) (by decide) C0 hAm hl.1 hLW2 hq2 (Nat.le_of_ble_eq_true rfl) (by omega) (by omega) rfl (fun β2 H3 locs3 hLW3 hq22 => ?_)
  refine lv_icmp_eq (tgt := 1320) hx hb dL_law_1068 (by decide) (fun _ => ?_) (fun h => absurd rfl h)
  exact kk α2 β2 gX2 gM2 H3 locs3 _ _ hR2 (LW_swap hLW3) hq12 hq22 (by omega) (by omega)
set_option maxHeartbeats 1000000 in
theorem lb_27 (C0 : lw_At p s m meth c b L xs) (hAm : Amb_ D s) (hL : L ≤ 3072) (hn : 6 * n + 6 ≤ L) (hl : lv_has ls 4 [(0, .ref b), (1, .ref q1), (2, .ref q2), (3, .int (nI (6 * n)))]) (kk : LG_ p l e s m below meth c b D Q ls q1 q2 (n + 1) 1320) : LG_ p l e s m below meth c b D Q ls q1 q2 n 1073 := by
  intro α β gX gM H locs cells slots hR hLW hq1 hq2 hce hsl
  obtain ⟨hx, hb, hr, hml, hown, hts, hX, hbl, hlocks, hgv⟩ := id C0
  obtain ⟨r, gX2, gM2, f1, f2, hR2, b1, b2, b3, b4⟩ := op_advance (xs (6 * n + 1)) gX gM n (by omega) hR
  have M1 := t9_advance 0 (xs (6 * n + 1)) gX
  have M2 := t10_advance 0 (xs (6 * n + 1)) gM
  rw [f1] at M1
  rw [f2] at M2
  refine lv_aload_n hx hb dL_law_1073 rfl (lv_at hl 1 rfl) ?_
  refine lw_arg (6 * n) 1 C0 hLW.2.2.2.2.2 hL (by omega) hl (by decide) dL_law_1074 dL_law_1075 dL_law_1076 dL_law_1077 dL_law_1078 ?_
  refine lw_call (As := [xs (6 * n + 1)]) (t1 := 9) (q1 := q1) (rest := []) (r := r) (g1 := gX2) M1 cw_cX9_advance mlL_127 dL_law_1079 rfl (by decide) (by decide) C0 hAm hl.1 hLW hq1 (by decide) (by omega) (by omega) rfl (fun α2 H2 locs2 hLW2 hq12 => ?_)
  have hLW2 := LW_swap hLW2
  refine lv_aload_n hx hb dL_law_1082 rfl (lv_at hl 2 rfl) ?_
  refine lw_arg (6 * n) 1 C0 hLW2.2.2.2.2.2 hL (by omega) hl (by decide) dL_law_1083 dL_law_1084 dL_law_1085 dL_law_1086 dL_law_1087 ?_
  refine lw_call (As := [xs (6 * n + 1)]) (t1 := 10) (q1 := q2) (rest := [.int r]) (r := r) (g1 := gM2) M2 cw_cX10_advance mlL_130 dL_law_1088 rfl (by decide) (by decide) C0 hAm hl.1 hLW2 hq2 (Nat.le_of_ble_eq_true rfl) (by omega) (by omega) rfl (fun β2 H3 locs3 hLW3 hq22 => ?_)
  refine lv_icmp_eq (tgt := 1320) hx hb dL_law_1091 (by decide) (fun _ => ?_) (fun h => absurd rfl h)
  exact kk α2 β2 gX2 gM2 H3 locs3 _ _ hR2 (LW_swap hLW3) hq12 hq22 (by omega) (by omega)
set_option maxHeartbeats 1000000 in
theorem lb_28 (C0 : lw_At p s m meth c b L xs) (hAm : Amb_ D s) (hL : L ≤ 3072) (hn : 6 * n + 6 ≤ L) (hl : lv_has ls 4 [(0, .ref b), (1, .ref q1), (2, .ref q2), (3, .int (nI (6 * n)))]) (kk : LG_ p l e s m below meth c b D Q ls q1 q2 (n + 1) 1320) : LG_ p l e s m below meth c b D Q ls q1 q2 n 1096 := by
  intro α β gX gM H locs cells slots hR hLW hq1 hq2 hce hsl
  obtain ⟨hx, hb, hr, hml, hown, hts, hX, hbl, hlocks, hgv⟩ := id C0
  obtain ⟨r, gX2, gM2, f1, f2, hR2, b1, b2, b3, b4⟩ := op_log (xs (6 * n + 1)) (xs (6 * n + 2)) gX gM n (by omega) hR
  have M1 := t9_log 0 (xs (6 * n + 1)) (xs (6 * n + 2)) gX
  have M2 := t10_log 0 (xs (6 * n + 1)) (xs (6 * n + 2)) gM
  rw [f1] at M1
  rw [f2] at M2
  refine lv_aload_n hx hb dL_law_1096 rfl (lv_at hl 1 rfl) ?_
  refine lw_arg (6 * n) 1 C0 hLW.2.2.2.2.2 hL (by omega) hl (by decide) dL_law_1097 dL_law_1098 dL_law_1099 dL_law_1100 dL_law_1101 ?_
  refine lw_arg (6 * n) 2 C0 hLW.2.2.2.2.2 hL (by omega) hl (by decide) dL_law_1102 dL_law_1103 dL_law_1104 dL_law_1105 dL_law_1106 ?_
  refine lw_call (As := [xs (6 * n + 1), xs (6 * n + 2)]) (t1 := 9) (q1 := q1) (rest := []) (r := r) (g1 := gX2) M1 cw_cX9_log mlL_131 dL_law_1107 rfl (by decide) (by decide) C0 hAm hl.1 hLW hq1 (by decide) (by omega) (by omega) rfl (fun α2 H2 locs2 hLW2 hq12 => ?_)
  have hLW2 := LW_swap hLW2
  refine lv_aload_n hx hb dL_law_1110 rfl (lv_at hl 2 rfl) ?_
  refine lw_arg (6 * n) 1 C0 hLW2.2.2.2.2.2 hL (by omega) hl (by decide) dL_law_1111 dL_law_1112 dL_law_1113 dL_law_1114 dL_law_1115 ?_
  refine lw_arg (6 * n) 2 C0 hLW2.2.2.2.2.2 hL (by omega) hl (by decide) dL_law_1116 dL_law_1117 dL_law_1118 dL_law_1119 dL_law_1120 ?_
  refine lw_call (As := [xs (6 * n + 1), xs (6 * n + 2)]) (t1 := 10) (q1 := q2) (rest := [.int r]) (r := r) (g1 := gM2) M2 cw_cX10_log mlL_134 dL_law_1121 rfl (by decide) (by decide) C0 hAm hl.1 hLW2 hq2 (Nat.le_of_ble_eq_true rfl) (by omega) (by omega) rfl (fun β2 H3 locs3 hLW3 hq22 => ?_)
  refine lv_icmp_eq (tgt := 1320) hx hb dL_law_1124 (by decide) (fun _ => ?_) (fun h => absurd rfl h)
  exact kk α2 β2 gX2 gM2 H3 locs3 _ _ hR2 (LW_swap hLW3) hq12 hq22 (by omega) (by omega)
set_option maxHeartbeats 1000000 in
theorem lb_29 (C0 : lw_At p s m meth c b L xs) (hAm : Amb_ D s) (hL : L ≤ 3072) (hn : 6 * n + 6 ≤ L) (hl : lv_has ls 4 [(0, .ref b), (1, .ref q1), (2, .ref q2), (3, .int (nI (6 * n)))]) (kk : LG_ p l e s m below meth c b D Q ls q1 q2 (n + 1) 1320) : LG_ p l e s m below meth c b D Q ls q1 q2 n 1129 := by
  intro α β gX gM H locs cells slots hR hLW hq1 hq2 hce hsl
  obtain ⟨hx, hb, hr, hml, hown, hts, hX, hbl, hlocks, hgv⟩ := id C0
  obtain ⟨r, gX2, gM2, f1, f2, hR2, b1, b2, b3, b4⟩ := op_printed (xs (6 * n + 1)) gX gM n (by omega) hR
  have M1 := t9_printed 0 (xs (6 * n + 1)) gX
  have M2 := t10_printed 0 (xs (6 * n + 1)) gM
  rw [f1] at M1
  rw [f2] at M2
  refine lv_aload_n hx hb dL_law_1129 rfl (lv_at hl 1 rfl) ?_
  refine lw_arg (6 * n) 1 C0 hLW.2.2.2.2.2 hL (by omega) hl (by decide) dL_law_1130 dL_law_1131 dL_law_1132 dL_law_1133 dL_law_1134 ?_
  refine lw_call (As := [xs (6 * n + 1)]) (t1 := 9) (q1 := q1) (rest := []) (r := r) (g1 := gX2) M1 cw_cX9_printed mlL_135 dL_law_1135 rfl (by decide) (by decide) C0 hAm hl.1 hLW hq1 (by decide) (by omega) (by omega) rfl (fun α2 H2 locs2 hLW2 hq12 => ?_)
  have hLW2 := LW_swap hLW2
  refine lv_aload_n hx hb dL_law_1138 rfl (lv_at hl 2 rfl) ?_
  refine lw_arg (6 * n) 1 C0 hLW2.2.2.2.2.2 hL (by omega) hl (by decide) dL_law_1139 dL_law_1140 dL_law_1141 dL_law_1142 dL_law_1143 ?_
  refine lw_call (As := [xs (6 * n + 1)]) (t1 := 10) (q1 := q2) (rest := [.int r]) (r := r) (g1 := gM2) M2 cw_cX10_printed mlL_138 dL_law_1144 rfl (by decide) (by decide) C0 hAm hl.1 hLW2 hq2 (Nat.le_of_ble_eq_true rfl) (by omega) (by omega) rfl (fun β2 H3 locs3 hLW3 hq22 => ?_)
  refine lv_icmp_eq (tgt := 1320) hx hb dL_law_1147 (by decide) (fun _ => ?_) (fun h => absurd rfl h)
  exact kk α2 β2 gX2 gM2 H3 locs3 _ _ hR2 (LW_swap hLW3) hq12 hq22 (by omega) (by omega)
set_option maxHeartbeats 1000000 in
theorem lb_30 (C0 : lw_At p s m meth c b L xs) (hAm : Amb_ D s) (hL : L ≤ 3072) (hn : 6 * n + 6 ≤ L) (hl : lv_has ls 4 [(0, .ref b), (1, .ref q1), (2, .ref q2), (3, .int (nI (6 * n)))]) (kk : LG_ p l e s m below meth c b D Q ls q1 q2 (n + 1) 1320) : LG_ p l e s m below meth c b D Q ls q1 q2 n 1152 := by
  intro α β gX gM H locs cells slots hR hLW hq1 hq2 hce hsl
  obtain ⟨hx, hb, hr, hml, hown, hts, hX, hbl, hlocks, hgv⟩ := id C0
  obtain ⟨r, gX2, gM2, f1, f2, hR2, b1, b2, b3, b4⟩ := op_finish (xs (6 * n + 1)) (xs (6 * n + 2)) gX gM n (by omega) hR
  have M1 := t9_finish 0 (xs (6 * n + 1)) (xs (6 * n + 2)) gX
  have M2 := t10_finish 0 (xs (6 * n + 1)) (xs (6 * n + 2)) gM
  rw [f1] at M1
  rw [f2] at M2
  refine lv_aload_n hx hb dL_law_1152 rfl (lv_at hl 1 rfl) ?_
  refine lw_arg (6 * n) 1 C0 hLW.2.2.2.2.2 hL (by omega) hl (by decide) dL_law_1153 dL_law_1154 dL_law_1155 dL_law_1156 dL_law_1157 ?_
  refine lw_arg (6 * n) 2 C0 hLW.2.2.2.2.2 hL (by omega) hl (by decide) dL_law_1158 dL_law_1159 dL_law_1160 dL_law_1161 dL_law_1162 ?_
  refine lw_call (As := [xs (6 * n + 1), xs (6 * n + 2)]) (t1 := 9) (q1 := q1) (rest := []) (r := r) (g1 := gX2) M1 cw_cX9_finish mlL_139 dL_law_1163 rfl (by decide) (by decide) C0 hAm hl.1 hLW hq1 (by decide) (by omega) (by omega) rfl (fun α2 H2 locs2 hLW2 hq12 => ?_)
  have hLW2 := LW_swap hLW2
  refine lv_aload_n hx hb dL_law_1166 rfl (lv_at hl 2 rfl) ?_
  refine lw_arg (6 * n) 1 C0 hLW2.2.2.2.2.2 hL (by omega) hl (by decide) dL_law_1167 dL_law_1168 dL_law_1169 dL_law_1170 dL_law_1171 ?_
  refine lw_arg (6 * n) 2 C0 hLW2.2.2.2.2.2 hL (by omega) hl (by decide) dL_law_1172 dL_law_1173 dL_law_1174 dL_law_1175 dL_law_1176 ?_
  refine lw_call (As := [xs (6 * n + 1), xs (6 * n + 2)]) (t1 := 10) (q1 := q2) (rest := [.int r]) (r := r) (g1 := gM2) M2 cw_cX10_finish mlL_142 dL_law_1177 rfl (by decide) (by decide) C0 hAm hl.1 hLW2 hq2 (Nat.le_of_ble_eq_true rfl) (by omega) (by omega) rfl (fun β2 H3 locs3 hLW3 hq22 => ?_)
  refine lv_icmp_eq (tgt := 1320) hx hb dL_law_1180 (by decide) (fun _ => ?_) (fun h => absurd rfl h)
  exact kk α2 β2 gX2 gM2 H3 locs3 _ _ hR2 (LW_swap hLW3) hq12 hq22 (by omega) (by omega)
set_option maxHeartbeats 1000000 in
theorem lb_31 (C0 : lw_At p s m meth c b L xs) (hAm : Amb_ D s) (hL : L ≤ 3072) (hn : 6 * n + 6 ≤ L) (hl : lv_has ls 4 [(0, .ref b), (1, .ref q1), (2, .ref q2), (3, .int (nI (6 * n)))]) (kk : LG_ p l e s m below meth c b D Q ls q1 q2 (n + 1) 1320) : LG_ p l e s m below meth c b D Q ls q1 q2 n 1185 := by
  intro α β gX gM H locs cells slots hR hLW hq1 hq2 hce hsl
  obtain ⟨hx, hb, hr, hml, hown, hts, hX, hbl, hlocks, hgv⟩ := id C0
  obtain ⟨r, gX2, gM2, f1, f2, hR2, b1, b2, b3, b4⟩ := op_urgency (xs (6 * n + 1)) (xs (6 * n + 2)) gX gM n (by omega) hR
  have M1 := t9_urgency 0 (xs (6 * n + 1)) (xs (6 * n + 2)) gX
  have M2 := t10_urgency 0 (xs (6 * n + 1)) (xs (6 * n + 2)) gM
  rw [f1] at M1
  rw [f2] at M2
  refine lv_aload_n hx hb dL_law_1185 rfl (lv_at hl 1 rfl) ?_
  refine lw_arg (6 * n) 1 C0 hLW.2.2.2.2.2 hL (by omega) hl (by decide) dL_law_1186 dL_law_1187 dL_law_1188 dL_law_1189 dL_law_1190 ?_
  refine lw_arg (6 * n) 2 C0 hLW.2.2.2.2.2 hL (by omega) hl (by decide) dL_law_1191 dL_law_1192 dL_law_1193 dL_law_1194 dL_law_1195 ?_
  refine lw_call (As := [xs (6 * n + 1), xs (6 * n + 2)]) (t1 := 9) (q1 := q1) (rest := []) (r := r) (g1 := gX2) M1 cw_cX9_urgency mlL_143 dL_law_1196 rfl (by decide) (by decide) C0 hAm hl.1 hLW hq1 (by decide) (by omega) (by omega) rfl (fun α2 H2 locs2 hLW2 hq12 => ?_)
  have hLW2 := LW_swap hLW2
  refine lv_aload_n hx hb dL_law_1199 rfl (lv_at hl 2 rfl) ?_
  refine lw_arg (6 * n) 1 C0 hLW2.2.2.2.2.2 hL (by omega) hl (by decide) dL_law_1200 dL_law_1201 dL_law_1202 dL_law_1203 dL_law_1204 ?_
  refine lw_arg (6 * n) 2 C0 hLW2.2.2.2.2.2 hL (by omega) hl (by decide) dL_law_1205 dL_law_1206 dL_law_1207 dL_law_1208 dL_law_1209 ?_
  refine lw_call (As := [xs (6 * n + 1), xs (6 * n + 2)]) (t1 := 10) (q1 := q2) (rest := [.int r]) (r := r) (g1 := gM2) M2 cw_cX10_urgency mlL_146 dL_law_1210 rfl (by decide) (by decide) C0 hAm hl.1 hLW2 hq2 (Nat.le_of_ble_eq_true rfl) (by omega) (by omega) rfl (fun β2 H3 locs3 hLW3 hq22 => ?_)
  refine lv_icmp_eq (tgt := 1320) hx hb dL_law_1213 (by decide) (fun _ => ?_) (fun h => absurd rfl h)
  exact kk α2 β2 gX2 gM2 H3 locs3 _ _ hR2 (LW_swap hLW3) hq12 hq22 (by omega) (by omega)
set_option maxHeartbeats 1000000 in
theorem lb_32 (C0 : lw_At p s m meth c b L xs) (hAm : Amb_ D s) (hL : L ≤ 3072) (hn : 6 * n + 6 ≤ L) (hl : lv_has ls 4 [(0, .ref b), (1, .ref q1), (2, .ref q2), (3, .int (nI (6 * n)))]) (kk : LG_ p l e s m below meth c b D Q ls q1 q2 (n + 1) 1320) : LG_ p l e s m below meth c b D Q ls q1 q2 n 1218 := by
  intro α β gX gM H locs cells slots hR hLW hq1 hq2 hce hsl
  obtain ⟨hx, hb, hr, hml, hown, hts, hX, hbl, hlocks, hgv⟩ := id C0
  obtain ⟨r, gX2, gM2, f1, f2, hR2, b1, b2, b3, b4⟩ := op_finisher (xs (6 * n + 1)) (xs (6 * n + 2)) gX gM n (by omega) hR
  have M1 := t9_finisher 0 (xs (6 * n + 1)) (xs (6 * n + 2)) gX
  have M2 := t10_finisher 0 (xs (6 * n + 1)) (xs (6 * n + 2)) gM
  rw [f1] at M1
  rw [f2] at M2
  refine lv_aload_n hx hb dL_law_1218 rfl (lv_at hl 1 rfl) ?_
  refine lw_arg (6 * n) 1 C0 hLW.2.2.2.2.2 hL (by omega) hl (by decide) dL_law_1219 dL_law_1220 dL_law_1221 dL_law_1222 dL_law_1223 ?_
  refine lw_arg (6 * n) 2 C0 hLW.2.2.2.2.2 hL (by omega) hl (by decide) dL_law_1224 dL_law_1225 dL_law_1226 dL_law_1227 dL_law_1228 ?_
  refine lw_call (As := [xs (6 * n + 1), xs (6 * n + 2)]) (t1 := 9) (q1 := q1) (rest := []) (r := r) (g1 := gX2) M1 cw_cX9_finisher mlL_147 dL_law_1229 rfl (by decide) (by decide) C0 hAm hl.1 hLW hq1 (by decide) (by omega) (by omega) rfl (fun α2 H2 locs2 hLW2 hq12 => ?_)
  have hLW2 := LW_swap hLW2
  refine lv_aload_n hx hb dL_law_1232 rfl (lv_at hl 2 rfl) ?_
  refine lw_arg (6 * n) 1 C0 hLW2.2.2.2.2.2 hL (by omega) hl (by decide) dL_law_1233 dL_law_1234 dL_law_1235 dL_law_1236 dL_law_1237 ?_
  refine lw_arg (6 * n) 2 C0 hLW2.2.2.2.2.2 hL (by omega) hl (by decide) dL_law_1238 dL_law_1239 dL_law_1240 dL_law_1241 dL_law_1242 ?_
  refine lw_call (As := [xs (6 * n + 1), xs (6 * n + 2)]) (t1 := 10) (q1 := q2) (rest := [.int r]) (r := r) (g1 := gM2) M2 cw_cX10_finisher mlL_150 dL_law_1243 rfl (by decide) (by decide) C0 hAm hl.1 hLW2 hq2 (Nat.le_of_ble_eq_true rfl) (by omega) (by omega) rfl (fun β2 H3 locs3 hLW3 hq22 => ?_)
  refine lv_icmp_eq (tgt := 1320) hx hb dL_law_1246 (by decide) (fun _ => ?_) (fun h => absurd rfl h)
  exact kk α2 β2 gX2 gM2 H3 locs3 _ _ hR2 (LW_swap hLW3) hq12 hq22 (by omega) (by omega)
set_option maxHeartbeats 1000000 in
theorem lb_33 (C0 : lw_At p s m meth c b L xs) (hAm : Amb_ D s) (hL : L ≤ 3072) (hn : 6 * n + 6 ≤ L) (hl : lv_has ls 4 [(0, .ref b), (1, .ref q1), (2, .ref q2), (3, .int (nI (6 * n)))]) (kk : LG_ p l e s m below meth c b D Q ls q1 q2 (n + 1) 1320) : LG_ p l e s m below meth c b D Q ls q1 q2 n 1251 := by
  intro α β gX gM H locs cells slots hR hLW hq1 hq2 hce hsl
  obtain ⟨hx, hb, hr, hml, hown, hts, hX, hbl, hlocks, hgv⟩ := id C0
  obtain ⟨r, gX2, gM2, f1, f2, hR2, b1, b2, b3, b4⟩ := op_count (xs (6 * n + 1)) gX gM n (by omega) hR
  have M1 := t9_count 0 (xs (6 * n + 1)) gX
  have M2 := t10_count 0 (xs (6 * n + 1)) gM
  rw [f1] at M1
  rw [f2] at M2
  refine lv_aload_n hx hb dL_law_1251 rfl (lv_at hl 1 rfl) ?_
  refine lw_arg (6 * n) 1 C0 hLW.2.2.2.2.2 hL (by omega) hl (by decide) dL_law_1252 dL_law_1253 dL_law_1254 dL_law_1255 dL_law_1256 ?_
  refine lw_call (As := [xs (6 * n + 1)]) (t1 := 9) (q1 := q1) (rest := []) (r := r) (g1 := gX2) M1 cw_cX9_count mlL_151 dL_law_1257 rfl (by decide) (by decide) C0 hAm hl.1 hLW hq1 (by decide) (by omega) (by omega) rfl (fun α2 H2 locs2 hLW2 hq12 => ?_)
  have hLW2 := LW_swap hLW2
  refine lv_aload_n hx hb dL_law_1260 rfl (lv_at hl 2 rfl) ?_
  refine lw_arg (6 * n) 1 C0 hLW2.2.2.2.2.2 hL (by omega) hl (by decide) dL_law_1261 dL_law_1262 dL_law_1263 dL_law_1264 dL_law_1265 ?_
  refine lw_call (As := [xs (6 * n + 1)]) (t1 := 10) (q1 := q2) (rest := [.int r]) (r := r) (g1 := gM2) M2 cw_cX10_count mlL_154 dL_law_1266 rfl (by decide) (by decide) C0 hAm hl.1 hLW2 hq2 (Nat.le_of_ble_eq_true rfl) (by omega) (by omega) rfl (fun β2 H3 locs3 hLW3 hq22 => ?_)
  refine lv_icmp_eq (tgt := 1320) hx hb dL_law_1269 (by decide) (fun _ => ?_) (fun h => absurd rfl h)
  exact kk α2 β2 gX2 gM2 H3 locs3 _ _ hR2 (LW_swap hLW3) hq12 hq22 (by omega) (by omega)
set_option maxHeartbeats 1000000 in
theorem lb_34 (C0 : lw_At p s m meth c b L xs) (hAm : Amb_ D s) (hL : L ≤ 3072) (hn : 6 * n + 6 ≤ L) (hl : lv_has ls 4 [(0, .ref b), (1, .ref q1), (2, .ref q2), (3, .int (nI (6 * n)))]) (kk : LG_ p l e s m below meth c b D Q ls q1 q2 (n + 1) 1320) : LG_ p l e s m below meth c b D Q ls q1 q2 n 1274 := by
  intro α β gX gM H locs cells slots hR hLW hq1 hq2 hce hsl
  obtain ⟨hx, hb, hr, hml, hown, hts, hX, hbl, hlocks, hgv⟩ := id C0
  obtain ⟨r, gX2, gM2, f1, f2, hR2, b1, b2, b3, b4⟩ := op_save (xs (6 * n + 1)) gX gM n (by omega) hR
  have M1 := t9_save 0 (xs (6 * n + 1)) gX
  have M2 := t10_save 0 (xs (6 * n + 1)) gM
  rw [f1] at M1
  rw [f2] at M2
  refine lv_aload_n hx hb dL_law_1274 rfl (lv_at hl 1 rfl) ?_
  refine lw_arg (6 * n) 1 C0 hLW.2.2.2.2.2 hL (by omega) hl (by decide) dL_law_1275 dL_law_1276 dL_law_1277 dL_law_1278 dL_law_1279 ?_
  refine lw_call (As := [xs (6 * n + 1)]) (t1 := 9) (q1 := q1) (rest := []) (r := r) (g1 := gX2) M1 cw_cX9_save mlL_155 dL_law_1280 rfl (by decide) (by decide) C0 hAm hl.1 hLW hq1 (by decide) (by omega) (by omega) rfl (fun α2 H2 locs2 hLW2 hq12 => ?_)
  have hLW2 := LW_swap hLW2
  refine lv_aload_n hx hb dL_law_1283 rfl (lv_at hl 2 rfl) ?_
  refine lw_arg (6 * n) 1 C0 hLW2.2.2.2.2.2 hL (by omega) hl (by decide) dL_law_1284 dL_law_1285 dL_law_1286 dL_law_1287 dL_law_1288 ?_
  refine lw_call (As := [xs (6 * n + 1)]) (t1 := 10) (q1 := q2) (rest := [.int r]) (r := r) (g1 := gM2) M2 cw_cX10_save mlL_158 dL_law_1289 rfl (by decide) (by decide) C0 hAm hl.1 hLW2 hq2 (Nat.le_of_ble_eq_true rfl) (by omega) (by omega) rfl (fun β2 H3 locs3 hLW3 hq22 => ?_)
  refine lv_icmp_eq (tgt := 1320) hx hb dL_law_1292 (by decide) (fun _ => ?_) (fun h => absurd rfl h)
  exact kk α2 β2 gX2 gM2 H3 locs3 _ _ hR2 (LW_swap hLW3) hq12 hq22 (by omega) (by omega)
set_option maxHeartbeats 1000000 in
theorem lb_35 (C0 : lw_At p s m meth c b L xs) (hAm : Amb_ D s) (hL : L ≤ 3072) (hn : 6 * n + 6 ≤ L) (hl : lv_has ls 4 [(0, .ref b), (1, .ref q1), (2, .ref q2), (3, .int (nI (6 * n)))]) (kk : LG_ p l e s m below meth c b D Q ls q1 q2 (n + 1) 1320) : LG_ p l e s m below meth c b D Q ls q1 q2 n 1297 := by
  intro α β gX gM H locs cells slots hR hLW hq1 hq2 hce hsl
  obtain ⟨hx, hb, hr, hml, hown, hts, hX, hbl, hlocks, hgv⟩ := id C0
  obtain ⟨r, gX2, gM2, f1, f2, hR2, b1, b2, b3, b4⟩ := op_restore (xs (6 * n + 1)) gX gM n (by omega) hR
  have M1 := t9_restore 0 (xs (6 * n + 1)) gX
  have M2 := t10_restore 0 (xs (6 * n + 1)) gM
  rw [f1] at M1
  rw [f2] at M2
  refine lv_aload_n hx hb dL_law_1297 rfl (lv_at hl 1 rfl) ?_
  refine lw_arg (6 * n) 1 C0 hLW.2.2.2.2.2 hL (by omega) hl (by decide) dL_law_1298 dL_law_1299 dL_law_1300 dL_law_1301 dL_law_1302 ?_
  refine lw_call (As := [xs (6 * n + 1)]) (t1 := 9) (q1 := q1) (rest := []) (r := r) (g1 := gX2) M1 cw_cX9_restore mlL_159 dL_law_1303 rfl (by decide) (by decide) C0 hAm hl.1 hLW hq1 (by decide) (by omega) (by omega) rfl (fun α2 H2 locs2 hLW2 hq12 => ?_)
  have hLW2 := LW_swap hLW2
  refine lv_aload_n hx hb dL_law_1306 rfl (lv_at hl 2 rfl) ?_
  refine lw_arg (6 * n) 1 C0 hLW2.2.2.2.2.2 hL (by omega) hl (by decide) dL_law_1307 dL_law_1308 dL_law_1309 dL_law_1310 dL_law_1311 ?_
  refine lw_call (As := [xs (6 * n + 1)]) (t1 := 10) (q1 := q2) (rest := [.int r]) (r := r) (g1 := gM2) M2 cw_cX10_restore mlL_162 dL_law_1312 rfl (by decide) (by decide) C0 hAm hl.1 hLW2 hq2 (Nat.le_of_ble_eq_true rfl) (by omega) (by omega) rfl (fun β2 H3 locs3 hLW3 hq22 => ?_)
  refine lv_icmp_eq (tgt := 1320) hx hb dL_law_1315 (by decide) (fun _ => ?_) (fun h => absurd rfl h)
  exact kk α2 β2 gX2 gM2 H3 locs3 _ _ hR2 (LW_swap hLW3) hq12 hq22 (by omega) (by omega)
end LB
