set_option maxHeartbeats 1000000 in
theorem lc_28 {y : Yw} {g : Gw} {b L : Nat} {xs : Nat → Int32} {M : Mw} {cells slots : Nat} {i : Int32} {Inv : Mw → Prop} (hT : gT g = 0) (C : LCw y b L xs g) (hI : Inv M) (hp : PK_start Inv) (h1 : vp_in (i + 1) L) (h2 : vp_in (i + 2) L) (h3 : vp_in (i + 3) L) (h4 : vp_in (i + 4) L) (h5 : vp_in (i + 5) L) (hc : cells + 2 ≤ 600000) (hs : slots + 12 ≤ 7302250) (kk : ∀ M : Mw, Inv M → LSx y g b M (cells + 2) (slots + 12) 1834 i []) : LSx y g b M cells slots 1082 i [] := by
  obtain ⟨r1, r2, e1, e2, he, hI2⟩ := hp M hI (xs (i + 1).toNatClampNeg) (xs (i + 2).toNatClampNeg)
  refine q_x C dL_law_1082 ?_
  refine q_arg (k := 1) C (by decide) dL_law_1083 dL_law_1084 dL_law_1085 dL_law_1086 dL_law_1087 h1 ?_
  refine q_arg (k := 2) C (by decide) dL_law_1088 dL_law_1089 dL_law_1090 dL_law_1091 dL_law_1092 h2 ?_
  refine q_call C (rest := []) (As := [.int (xs (i + 1).toNatClampNeg), .int (xs (i + 2).toNatClampNeg)]) (c_X9_start (xs (i + 1).toNatClampNeg) (xs (i + 2).toNatClampNeg) M) e1 dL_law_1093 u_906 in_41 (contW_41 g _ _ _ _ _) rfl u_907 u_908 mi_X9_start (by decide) (by decide) rfl rfl (by decide) (by omega) (by omega) ?_
  refine q_m C dL_law_1096 ?_
  refine q_arg (k := 1) C (by decide) dL_law_1097 dL_law_1098 dL_law_1099 dL_law_1100 dL_law_1101 h1 ?_
  refine q_arg (k := 2) C (by decide) dL_law_1102 dL_law_1103 dL_law_1104 dL_law_1105 dL_law_1106 h2 ?_
  refine q_call C (rest := [.int r1.1]) (As := [.int (xs (i + 1).toNatClampNeg), .int (xs (i + 2).toNatClampNeg)]) (c_X10_start (xs (i + 1).toNatClampNeg) (xs (i + 2).toNatClampNeg) r1.2) e2 dL_law_1107 u_1532 in_50 (contW_50 g _ _ _ _ _) rfl u_1533 u_1534 mi_X10_start (by decide) (by decide) rfl rfl (Nat.le_of_ble_eq_true rfl) (by omega) (by omega) ?_
  show LSx y g b r2.2 _ _ 1110 i [.int r2.1, .int r1.1]
  exact q_eq (tgt := 1834) C he dL_law_1110 (by decide) (q_widen (by show cells + _ + _ ≤ _; omega) (by show slots + _ + _ ≤ _; omega) (kk _ hI2))
set_option maxHeartbeats 1000000 in
theorem lc_29 {y : Yw} {g : Gw} {b L : Nat} {xs : Nat → Int32} {M : Mw} {cells slots : Nat} {i : Int32} {Inv : Mw → Prop} (hT : gT g = 0) (C : LCw y b L xs g) (hI : Inv M) (hp : PK_memory Inv) (h1 : vp_in (i + 1) L) (h2 : vp_in (i + 2) L) (h3 : vp_in (i + 3) L) (h4 : vp_in (i + 4) L) (h5 : vp_in (i + 5) L) (hc : cells + 2 ≤ 600000) (hs : slots + 12 ≤ 7302250) (kk : ∀ M : Mw, Inv M → LSx y g b M (cells + 2) (slots + 12) 1834 i []) : LSx y g b M cells slots 1115 i [] := by
  obtain ⟨r1, r2, e1, e2, he, hI2⟩ := hp M hI (xs (i + 1).toNatClampNeg) (xs (i + 2).toNatClampNeg)
  refine q_x C dL_law_1115 ?_
  refine q_arg (k := 1) C (by decide) dL_law_1116 dL_law_1117 dL_law_1118 dL_law_1119 dL_law_1120 h1 ?_
  refine q_arg (k := 2) C (by decide) dL_law_1121 dL_law_1122 dL_law_1123 dL_law_1124 dL_law_1125 h2 ?_
  refine q_call C (rest := []) (As := [.int (xs (i + 1).toNatClampNeg), .int (xs (i + 2).toNatClampNeg)]) (c_X9_memory (xs (i + 1).toNatClampNeg) (xs (i + 2).toNatClampNeg) M) e1 dL_law_1126 u_910 in_41 (contW_41 g _ _ _ _ _) rfl u_911 u_912 mi_X9_memory (by decide) (by decide) rfl rfl (by decide) (by omega) (by omega) ?_
  refine q_m C dL_law_1129 ?_
  refine q_arg (k := 1) C (by decide) dL_law_1130 dL_law_1131 dL_law_1132 dL_law_1133 dL_law_1134 h1 ?_
  refine q_arg (k := 2) C (by decide) dL_law_1135 dL_law_1136 dL_law_1137 dL_law_1138 dL_law_1139 h2 ?_
  refine q_call C (rest := [.int r1.1]) (As := [.int (xs (i + 1).toNatClampNeg), .int (xs (i + 2).toNatClampNeg)]) (c_X10_memory (xs (i + 1).toNatClampNeg) (xs (i + 2).toNatClampNeg) r1.2) e2 dL_law_1140 u_1536 in_50 (contW_50 g _ _ _ _ _) rfl u_1537 u_1538 mi_X10_memory (by decide) (by decide) rfl rfl (Nat.le_of_ble_eq_true rfl) (by omega) (by omega) ?_
  show LSx y g b r2.2 _ _ 1143 i [.int r2.1, .int r1.1]
  exact q_eq (tgt := 1834) C he dL_law_1143 (by decide) (q_widen (by show cells + _ + _ ≤ _; omega) (by show slots + _ + _ ≤ _; omega) (kk _ hI2))
set_option maxHeartbeats 1000000 in
theorem lc_30 {y : Yw} {g : Gw} {b L : Nat} {xs : Nat → Int32} {M : Mw} {cells slots : Nat} {i : Int32} {Inv : Mw → Prop} (hT : gT g = 0) (C : LCw y b L xs g) (hI : Inv M) (hp : PK_health Inv) (h1 : vp_in (i + 1) L) (h2 : vp_in (i + 2) L) (h3 : vp_in (i + 3) L) (h4 : vp_in (i + 4) L) (h5 : vp_in (i + 5) L) (hc : cells + 2 ≤ 600000) (hs : slots + 12 ≤ 7302250) (kk : ∀ M : Mw, Inv M → LSx y g b M (cells + 2) (slots + 12) 1834 i []) : LSx y g b M cells slots 1148 i [] := by
  obtain ⟨r1, r2, e1, e2, he, hI2⟩ := hp M hI (xs (i + 1).toNatClampNeg) (xs (i + 2).toNatClampNeg)
  refine q_x C dL_law_1148 ?_
  refine q_arg (k := 1) C (by decide) dL_law_1149 dL_law_1150 dL_law_1151 dL_law_1152 dL_law_1153 h1 ?_
  refine q_arg (k := 2) C (by decide) dL_law_1154 dL_law_1155 dL_law_1156 dL_law_1157 dL_law_1158 h2 ?_
  refine q_call C (rest := []) (As := [.int (xs (i + 1).toNatClampNeg), .int (xs (i + 2).toNatClampNeg)]) (c_X9_health (xs (i + 1).toNatClampNeg) (xs (i + 2).toNatClampNeg) M) e1 dL_law_1159 u_914 in_41 (contW_41 g _ _ _ _ _) rfl u_915 u_916 mi_X9_health (by decide) (by decide) rfl rfl (by decide) (by omega) (by omega) ?_
  refine q_m C dL_law_1162 ?_
  refine q_arg (k := 1) C (by decide) dL_law_1163 dL_law_1164 dL_law_1165 dL_law_1166 dL_law_1167 h1 ?_
  refine q_arg (k := 2) C (by decide) dL_law_1168 dL_law_1169 dL_law_1170 dL_law_1171 dL_law_1172 h2 ?_
  refine q_call C (rest := [.int r1.1]) (As := [.int (xs (i + 1).toNatClampNeg), .int (xs (i + 2).toNatClampNeg)]) (c_X10_health (xs (i + 1).toNatClampNeg) (xs (i + 2).toNatClampNeg) r1.2) e2 dL_law_1173 u_1540 in_50 (contW_50 g _ _ _ _ _) rfl u_1541 u_1542 mi_X10_health (by decide) (by decide) rfl rfl (Nat.le_of_ble_eq_true rfl) (by omega) (by omega) ?_
  show LSx y g b r2.2 _ _ 1176 i [.int r2.1, .int r1.1]
  exact q_eq (tgt := 1834) C he dL_law_1176 (by decide) (q_widen (by show cells + _ + _ ≤ _; omega) (by show slots + _ + _ ≤ _; omega) (kk _ hI2))
set_option maxHeartbeats 1000000 in
theorem lc_31 {y : Yw} {g : Gw} {b L : Nat} {xs : Nat → Int32} {M : Mw} {cells slots : Nat} {i : Int32} {Inv : Mw → Prop} (hT : gT g = 0) (C : LCw y b L xs g) (hI : Inv M) (hp : PK_tenths Inv) (h1 : vp_in (i + 1) L) (h2 : vp_in (i + 2) L) (h3 : vp_in (i + 3) L) (h4 : vp_in (i + 4) L) (h5 : vp_in (i + 5) L) (hc : cells + 2 ≤ 600000) (hs : slots + 12 ≤ 7302250) (kk : ∀ M : Mw, Inv M → LSx y g b M (cells + 2) (slots + 12) 1834 i []) : LSx y g b M cells slots 1181 i [] := by
  obtain ⟨r1, r2, e1, e2, he, hI2⟩ := hp M hI (xs (i + 1).toNatClampNeg) (xs (i + 2).toNatClampNeg)
  refine q_x C dL_law_1181 ?_
  refine q_arg (k := 1) C (by decide) dL_law_1182 dL_law_1183 dL_law_1184 dL_law_1185 dL_law_1186 h1 ?_
  refine q_arg (k := 2) C (by decide) dL_law_1187 dL_law_1188 dL_law_1189 dL_law_1190 dL_law_1191 h2 ?_
  refine q_call C (rest := []) (As := [.int (xs (i + 1).toNatClampNeg), .int (xs (i + 2).toNatClampNeg)]) (c_X9_tenths (xs (i + 1).toNatClampNeg) (xs (i + 2).toNatClampNeg) M) e1 dL_law_1192 u_918 in_41 (contW_41 g _ _ _ _ _) rfl u_919 u_920 mi_X9_tenths (by decide) (by decide) rfl rfl (by decide) (by omega) (by omega) ?_
  refine q_m C dL_law_1195 ?_
  refine q_arg (k := 1) C (by decide) dL_law_1196 dL_law_1197 dL_law_1198 dL_law_1199 dL_law_1200 h1 ?_
  refine q_arg (k := 2) C (by decide) dL_law_1201 dL_law_1202 dL_law_1203 dL_law_1204 dL_law_1205 h2 ?_
  refine q_call C (rest := [.int r1.1]) (As := [.int (xs (i + 1).toNatClampNeg), .int (xs (i + 2).toNatClampNeg)]) (c_X10_tenths (xs (i + 1).toNatClampNeg) (xs (i + 2).toNatClampNeg) r1.2) e2 dL_law_1206 u_1544 in_50 (contW_50 g _ _ _ _ _) rfl u_1545 u_1546 mi_X10_tenths (by decide) (by decide) rfl rfl (Nat.le_of_ble_eq_true rfl) (by omega) (by omega) ?_
  show LSx y g b r2.2 _ _ 1209 i [.int r2.1, .int r1.1]
  exact q_eq (tgt := 1834) C he dL_law_1209 (by decide) (q_widen (by show cells + _ + _ ≤ _; omega) (by show slots + _ + _ ≤ _; omega) (kk _ hI2))
set_option maxHeartbeats 1000000 in
theorem lc_32 {y : Yw} {g : Gw} {b L : Nat} {xs : Nat → Int32} {M : Mw} {cells slots : Nat} {i : Int32} {Inv : Mw → Prop} (hT : gT g = 0) (C : LCw y b L xs g) (hI : Inv M) (hp : PK_margin Inv) (h1 : vp_in (i + 1) L) (h2 : vp_in (i + 2) L) (h3 : vp_in (i + 3) L) (h4 : vp_in (i + 4) L) (h5 : vp_in (i + 5) L) (hc : cells + 2 ≤ 600000) (hs : slots + 12 ≤ 7302250) (kk : ∀ M : Mw, Inv M → LSx y g b M (cells + 2) (slots + 12) 1834 i []) : LSx y g b M cells slots 1214 i [] := by
  obtain ⟨r1, r2, e1, e2, he, hI2⟩ := hp M hI (xs (i + 1).toNatClampNeg) (xs (i + 2).toNatClampNeg)
  refine q_x C dL_law_1214 ?_
  refine q_arg (k := 1) C (by decide) dL_law_1215 dL_law_1216 dL_law_1217 dL_law_1218 dL_law_1219 h1 ?_
  refine q_arg (k := 2) C (by decide) dL_law_1220 dL_law_1221 dL_law_1222 dL_law_1223 dL_law_1224 h2 ?_
  refine q_call C (rest := []) (As := [.int (xs (i + 1).toNatClampNeg), .int (xs (i + 2).toNatClampNeg)]) (c_X9_margin (xs (i + 1).toNatClampNeg) (xs (i + 2).toNatClampNeg) M) e1 dL_law_1225 u_923 in_41 (contW_41 g _ _ _ _ _) rfl u_924 u_925 mi_X9_margin (by decide) (by decide) rfl rfl (by decide) (by omega) (by omega) ?_
  refine q_m C dL_law_1228 ?_
  refine q_arg (k := 1) C (by decide) dL_law_1229 dL_law_1230 dL_law_1231 dL_law_1232 dL_law_1233 h1 ?_
  refine q_arg (k := 2) C (by decide) dL_law_1234 dL_law_1235 dL_law_1236 dL_law_1237 dL_law_1238 h2 ?_
  refine q_call C (rest := [.int r1.1]) (As := [.int (xs (i + 1).toNatClampNeg), .int (xs (i + 2).toNatClampNeg)]) (c_X10_margin (xs (i + 1).toNatClampNeg) (xs (i + 2).toNatClampNeg) r1.2) e2 dL_law_1239 u_1548 in_50 (contW_50 g _ _ _ _ _) rfl u_1549 u_1550 mi_X10_margin (by decide) (by decide) rfl rfl (Nat.le_of_ble_eq_true rfl) (by omega) (by omega) ?_
  show LSx y g b r2.2 _ _ 1242 i [.int r2.1, .int r1.1]
  exact q_eq (tgt := 1834) C he dL_law_1242 (by decide) (q_widen (by show cells + _ + _ ≤ _; omega) (by show slots + _ + _ ≤ _; omega) (kk _ hI2))
set_option maxHeartbeats 1000000 in
theorem lc_33 {y : Yw} {g : Gw} {b L : Nat} {xs : Nat → Int32} {M : Mw} {cells slots : Nat} {i : Int32} {Inv : Mw → Prop} (hT : gT g = 0) (C : LCw y b L xs g) (hI : Inv M) (hp : PK_mean Inv) (h1 : vp_in (i + 1) L) (h2 : vp_in (i + 2) L) (h3 : vp_in (i + 3) L) (h4 : vp_in (i + 4) L) (h5 : vp_in (i + 5) L) (hc : cells + 2 ≤ 600000) (hs : slots + 12 ≤ 7302250) (kk : ∀ M : Mw, Inv M → LSx y g b M (cells + 2) (slots + 12) 1834 i []) : LSx y g b M cells slots 1247 i [] := by
  obtain ⟨r1, r2, e1, e2, he, hI2⟩ := hp M hI (xs (i + 1).toNatClampNeg) (xs (i + 2).toNatClampNeg)
  refine q_x C dL_law_1247 ?_
  refine q_arg (k := 1) C (by decide) dL_law_1248 dL_law_1249 dL_law_1250 dL_law_1251 dL_law_1252 h1 ?_
  refine q_arg (k := 2) C (by decide) dL_law_1253 dL_law_1254 dL_law_1255 dL_law_1256 dL_law_1257 h2 ?_
  refine q_call C (rest := []) (As := [.int (xs (i + 1).toNatClampNeg), .int (xs (i + 2).toNatClampNeg)]) (c_X9_mean (xs (i + 1).toNatClampNeg) (xs (i + 2).toNatClampNeg) M) e1 dL_law_1258 u_927 in_41 (contW_41 g _ _ _ _ _) rfl u_928 u_929 mi_X9_mean (by decide) (by decide) rfl rfl (by decide) (by omega) (by omega) ?_
  refine q_m C dL_law_1261 ?_
  refine q_arg (k := 1) C (by decide) dL_law_1262 dL_law_1263 dL_law_1264 dL_law_1265 dL_law_1266 h1 ?_
  refine q_arg (k := 2) C (by decide) dL_law_1267 dL_law_1268 dL_law_1269 dL_law_1270 dL_law_1271 h2 ?_
  refine q_call C (rest := [.long r1.1]) (As := [.int (xs (i + 1).toNatClampNeg), .int (xs (i + 2).toNatClampNeg)]) (c_X10_mean (xs (i + 1).toNatClampNeg) (xs (i + 2).toNatClampNeg) r1.2) e2 dL_law_1272 u_1552 in_50 (contW_50 g _ _ _ _ _) rfl u_1553 u_1554 mi_X10_mean (by decide) (by decide) rfl rfl (Nat.le_of_ble_eq_true rfl) (by omega) (by omega) ?_
  show LSx y g b r2.2 _ _ 1275 i [.long r2.1, .long r1.1]
  exact q_eql (tgt := 1834) C he dL_law_1275 dL_law_1276 (by decide) (q_widen (by show cells + _ + _ ≤ _; omega) (by show slots + _ + _ ≤ _; omega) (kk _ hI2))
set_option maxHeartbeats 1000000 in
theorem lc_34 {y : Yw} {g : Gw} {b L : Nat} {xs : Nat → Int32} {M : Mw} {cells slots : Nat} {i : Int32} {Inv : Mw → Prop} (hT : gT g = 0) (C : LCw y b L xs g) (hI : Inv M) (hp : PK_faults Inv) (h1 : vp_in (i + 1) L) (h2 : vp_in (i + 2) L) (h3 : vp_in (i + 3) L) (h4 : vp_in (i + 4) L) (h5 : vp_in (i + 5) L) (hc : cells + 2 ≤ 600000) (hs : slots + 12 ≤ 7302250) (kk : ∀ M : Mw, Inv M → LSx y g b M (cells + 2) (slots + 12) 1834 i []) : LSx y g b M cells slots 1281 i [] := by
  obtain ⟨r1, r2, e1, e2, he, hI2⟩ := hp M hI (xs (i + 1).toNatClampNeg)
  refine q_x C dL_law_1281 ?_
  refine q_arg (k := 1) C (by decide) dL_law_1282 dL_law_1283 dL_law_1284 dL_law_1285 dL_law_1286 h1 ?_
  refine q_call C (rest := []) (As := [.int (xs (i + 1).toNatClampNeg)]) (c_X9_faults (xs (i + 1).toNatClampNeg) M) e1 dL_law_1287 u_939 in_41 (contW_41 g _ _ _ _ _) rfl u_940 u_941 mi_X9_faults (by decide) (by decide) rfl rfl (by decide) (by omega) (by omega) ?_
  refine q_m C dL_law_1290 ?_
  refine q_arg (k := 1) C (by decide) dL_law_1291 dL_law_1292 dL_law_1293 dL_law_1294 dL_law_1295 h1 ?_
  refine q_call C (rest := [.int r1]) (As := [.int (xs (i + 1).toNatClampNeg)]) (c_X10_faults (xs (i + 1).toNatClampNeg) M) e2 dL_law_1296 u_1568 in_50 (contW_50 g _ _ _ _ _) rfl u_1569 u_1570 mi_X10_faults (by decide) (by decide) rfl rfl (Nat.le_of_ble_eq_true rfl) (by omega) (by omega) ?_
  show LSx y g b r2.2 _ _ 1299 i [.int r2.1, .int r1]
  exact q_eq (tgt := 1834) C he dL_law_1299 (by decide) (q_widen (by show cells + _ + _ ≤ _; omega) (by show slots + _ + _ ≤ _; omega) (kk _ hI2))
set_option maxHeartbeats 1000000 in
theorem lc_35 {y : Yw} {g : Gw} {b L : Nat} {xs : Nat → Int32} {M : Mw} {cells slots : Nat} {i : Int32} {Inv : Mw → Prop} (hT : gT g = 0) (C : LCw y b L xs g) (hI : Inv M) (hp : PK_record Inv) (h1 : vp_in (i + 1) L) (h2 : vp_in (i + 2) L) (h3 : vp_in (i + 3) L) (h4 : vp_in (i + 4) L) (h5 : vp_in (i + 5) L) (hc : cells + 2 ≤ 600000) (hs : slots + 12 ≤ 7302250) (kk : ∀ M : Mw, Inv M → LSx y g b M (cells + 2) (slots + 12) 1834 i []) : LSx y g b M cells slots 1304 i [] := by
  obtain ⟨r1, r2, e1, e2, he, hI2⟩ := hp M hI (xs (i + 1).toNatClampNeg) (xs (i + 2).toNatClampNeg)
  refine q_x C dL_law_1304 ?_
  refine q_arg (k := 1) C (by decide) dL_law_1305 dL_law_1306 dL_law_1307 dL_law_1308 dL_law_1309 h1 ?_
  refine q_arg (k := 2) C (by decide) dL_law_1310 dL_law_1311 dL_law_1312 dL_law_1313 dL_law_1314 h2 ?_
  refine q_call C (rest := []) (As := [.int (xs (i + 1).toNatClampNeg), .int (xs (i + 2).toNatClampNeg)]) (c_X9_record (xs (i + 1).toNatClampNeg) (xs (i + 2).toNatClampNeg) M) e1 dL_law_1315 u_947 in_41 (contW_41 g _ _ _ _ _) rfl u_948 u_949 mi_X9_record (by decide) (by decide) rfl rfl (by decide) (by omega) (by omega) ?_
  refine q_m C dL_law_1318 ?_
  refine q_arg (k := 1) C (by decide) dL_law_1319 dL_law_1320 dL_law_1321 dL_law_1322 dL_law_1323 h1 ?_
  refine q_arg (k := 2) C (by decide) dL_law_1324 dL_law_1325 dL_law_1326 dL_law_1327 dL_law_1328 h2 ?_
  refine q_call C (rest := [.int r1]) (As := [.int (xs (i + 1).toNatClampNeg), .int (xs (i + 2).toNatClampNeg)]) (c_X10_record (xs (i + 1).toNatClampNeg) (xs (i + 2).toNatClampNeg) M) e2 dL_law_1329 u_1572 in_50 (contW_50 g _ _ _ _ _) rfl u_1573 u_1574 mi_X10_record (by decide) (by decide) rfl rfl (Nat.le_of_ble_eq_true rfl) (by omega) (by omega) ?_
  show LSx y g b r2.2 _ _ 1332 i [.int r2.1, .int r1]
  exact q_eq (tgt := 1834) C he dL_law_1332 (by decide) (q_widen (by show cells + _ + _ ≤ _; omega) (by show slots + _ + _ ≤ _; omega) (kk _ hI2))
set_option maxHeartbeats 1000000 in
theorem lc_36 {y : Yw} {g : Gw} {b L : Nat} {xs : Nat → Int32} {M : Mw} {cells slots : Nat} {i : Int32} {Inv : Mw → Prop} (hT : gT g = 0) (C : LCw y b L xs g) (hI : Inv M) (hp : PK_ledger Inv) (h1 : vp_in (i + 1) L) (h2 : vp_in (i + 2) L) (h3 : vp_in (i + 3) L) (h4 : vp_in (i + 4) L) (h5 : vp_in (i + 5) L) (hc : cells + 2 ≤ 600000) (hs : slots + 12 ≤ 7302250) (kk : ∀ M : Mw, Inv M → LSx y g b M (cells + 2) (slots + 12) 1834 i []) : LSx y g b M cells slots 1337 i [] := by
  obtain ⟨r1, r2, e1, e2, he, hI2⟩ := hp M hI (xs (i + 1).toNatClampNeg)
  refine q_x C dL_law_1337 ?_
  refine q_arg (k := 1) C (by decide) dL_law_1338 dL_law_1339 dL_law_1340 dL_law_1341 dL_law_1342 h1 ?_
  refine q_call C (rest := []) (As := [.int (xs (i + 1).toNatClampNeg)]) (c_X9_ledger (xs (i + 1).toNatClampNeg) M) e1 dL_law_1343 u_951 in_41 (contW_41 g _ _ _ _ _) rfl u_952 u_953 mi_X9_ledger (by decide) (by decide) rfl rfl (by decide) (by omega) (by omega) ?_
  refine q_m C dL_law_1346 ?_
  refine q_arg (k := 1) C (by decide) dL_law_1347 dL_law_1348 dL_law_1349 dL_law_1350 dL_law_1351 h1 ?_
  refine q_call C (rest := [.int r1]) (As := [.int (xs (i + 1).toNatClampNeg)]) (c_X10_ledger (xs (i + 1).toNatClampNeg) M) e2 dL_law_1352 u_1576 in_50 (contW_50 g _ _ _ _ _) rfl u_1577 u_1578 mi_X10_ledger (by decide) (by decide) rfl rfl (Nat.le_of_ble_eq_true rfl) (by omega) (by omega) ?_
  show LSx y g b r2.2 _ _ 1355 i [.int r2.1, .int r1]
  exact q_eq (tgt := 1834) C he dL_law_1355 (by decide) (q_widen (by show cells + _ + _ ≤ _; omega) (by show slots + _ + _ ≤ _; omega) (kk _ hI2))
set_option maxHeartbeats 1000000 in
theorem lc_37 {y : Yw} {g : Gw} {b L : Nat} {xs : Nat → Int32} {M : Mw} {cells slots : Nat} {i : Int32} {Inv : Mw → Prop} (hT : gT g = 0) (C : LCw y b L xs g) (hI : Inv M) (hp : PK_kinds Inv) (h1 : vp_in (i + 1) L) (h2 : vp_in (i + 2) L) (h3 : vp_in (i + 3) L) (h4 : vp_in (i + 4) L) (h5 : vp_in (i + 5) L) (hc : cells + 2 ≤ 600000) (hs : slots + 12 ≤ 7302250) (kk : ∀ M : Mw, Inv M → LSx y g b M (cells + 2) (slots + 12) 1834 i []) : LSx y g b M cells slots 1360 i [] := by
  obtain ⟨r1, r2, e1, e2, he, hI2⟩ := hp M hI (xs (i + 1).toNatClampNeg)
  refine q_x C dL_law_1360 ?_
  refine q_arg (k := 1) C (by decide) dL_law_1361 dL_law_1362 dL_law_1363 dL_law_1364 dL_law_1365 h1 ?_
  refine q_call C (rest := []) (As := [.int (xs (i + 1).toNatClampNeg)]) (c_X9_kinds (xs (i + 1).toNatClampNeg) M) e1 dL_law_1366 u_959 in_41 (contW_41 g _ _ _ _ _) rfl u_960 u_961 mi_X9_kinds (by decide) (by decide) rfl rfl (by decide) (by omega) (by omega) ?_
  refine q_m C dL_law_1369 ?_
  refine q_arg (k := 1) C (by decide) dL_law_1370 dL_law_1371 dL_law_1372 dL_law_1373 dL_law_1374 h1 ?_
  refine q_call C (rest := [.int r1]) (As := [.int (xs (i + 1).toNatClampNeg)]) (c_X10_kinds (xs (i + 1).toNatClampNeg) M) e2 dL_law_1375 u_1580 in_50 (contW_50 g _ _ _ _ _) rfl u_1581 u_1582 mi_X10_kinds (by decide) (by decide) rfl rfl (Nat.le_of_ble_eq_true rfl) (by omega) (by omega) ?_
  show LSx y g b r2.2 _ _ 1378 i [.int r2.1, .int r1]
  exact q_eq (tgt := 1834) C he dL_law_1378 (by decide) (q_widen (by show cells + _ + _ ≤ _; omega) (by show slots + _ + _ ≤ _; omega) (kk _ hI2))
set_option maxHeartbeats 1000000 in
theorem lc_38 {y : Yw} {g : Gw} {b L : Nat} {xs : Nat → Int32} {M : Mw} {cells slots : Nat} {i : Int32} {Inv : Mw → Prop} (hT : gT g = 0) (C : LCw y b L xs g) (hI : Inv M) (hp : PK_levels Inv) (h1 : vp_in (i + 1) L) (h2 : vp_in (i + 2) L) (h3 : vp_in (i + 3) L) (h4 : vp_in (i + 4) L) (h5 : vp_in (i + 5) L) (hc : cells + 2 ≤ 600000) (hs : slots + 12 ≤ 7302250) (kk : ∀ M : Mw, Inv M → LSx y g b M (cells + 2) (slots + 12) 1834 i []) : LSx y g b M cells slots 1383 i [] := by
  obtain ⟨r1, r2, e1, e2, he, hI2⟩ := hp M hI (xs (i + 1).toNatClampNeg) (xs (i + 2).toNatClampNeg)
  refine q_x C dL_law_1383 ?_
  refine q_arg (k := 1) C (by decide) dL_law_1384 dL_law_1385 dL_law_1386 dL_law_1387 dL_law_1388 h1 ?_
  refine q_arg (k := 2) C (by decide) dL_law_1389 dL_law_1390 dL_law_1391 dL_law_1392 dL_law_1393 h2 ?_
  refine q_call C (rest := []) (As := [.int (xs (i + 1).toNatClampNeg), .int (xs (i + 2).toNatClampNeg)]) (c_X9_levels (xs (i + 1).toNatClampNeg) (xs (i + 2).toNatClampNeg) M) e1 dL_law_1394 u_963 in_41 (contW_41 g _ _ _ _ _) rfl u_964 u_965 mi_X9_levels (by decide) (by decide) rfl rfl (by decide) (by omega) (by omega) ?_
  refine q_m C dL_law_1397 ?_
  refine q_arg (k := 1) C (by decide) dL_law_1398 dL_law_1399 dL_law_1400 dL_law_1401 dL_law_1402 h1 ?_
  refine q_arg (k := 2) C (by decide) dL_law_1403 dL_law_1404 dL_law_1405 dL_law_1406 dL_law_1407 h2 ?_
  refine q_call C (rest := [.int r1]) (As := [.int (xs (i + 1).toNatClampNeg), .int (xs (i + 2).toNatClampNeg)]) (c_X10_levels (xs (i + 1).toNatClampNeg) (xs (i + 2).toNatClampNeg) M) e2 dL_law_1408 u_1585 in_50 (contW_50 g _ _ _ _ _) rfl u_1586 u_1587 mi_X10_levels (by decide) (by decide) rfl rfl (Nat.le_of_ble_eq_true rfl) (by omega) (by omega) ?_
  show LSx y g b r2.2 _ _ 1411 i [.int r2.1, .int r1]
  exact q_eq (tgt := 1834) C he dL_law_1411 (by decide) (q_widen (by show cells + _ + _ ≤ _; omega) (by show slots + _ + _ ≤ _; omega) (kk _ hI2))
set_option maxHeartbeats 1000000 in
theorem lc_39 {y : Yw} {g : Gw} {b L : Nat} {xs : Nat → Int32} {M : Mw} {cells slots : Nat} {i : Int32} {Inv : Mw → Prop} (hT : gT g = 0) (C : LCw y b L xs g) (hI : Inv M) (hp : PK_halts Inv) (h1 : vp_in (i + 1) L) (h2 : vp_in (i + 2) L) (h3 : vp_in (i + 3) L) (h4 : vp_in (i + 4) L) (h5 : vp_in (i + 5) L) (hc : cells + 2 ≤ 600000) (hs : slots + 12 ≤ 7302250) (kk : ∀ M : Mw, Inv M → LSx y g b M (cells + 2) (slots + 12) 1834 i []) : LSx y g b M cells slots 1416 i [] := by
  obtain ⟨r1, r2, e1, e2, he, hI2⟩ := hp M hI
  refine q_x C dL_law_1416 ?_
  refine q_call C (rest := []) (As := []) (c_X9_halts  M) e1 dL_law_1417 u_971 in_41 (contW_41 g _ _ _ _ _) rfl u_972 u_973 mi_X9_halts (by decide) (by decide) rfl rfl (by decide) (by omega) (by omega) ?_
  refine q_m C dL_law_1420 ?_
  refine q_call C (rest := [.int r1]) (As := []) (c_X10_halts  M) e2 dL_law_1421 u_1589 in_50 (contW_50 g _ _ _ _ _) rfl u_1590 u_1591 mi_X10_halts (by decide) (by decide) rfl rfl (Nat.le_of_ble_eq_true rfl) (by omega) (by omega) ?_
  show LSx y g b r2.2 _ _ 1424 i [.int r2.1, .int r1]
  exact q_eq (tgt := 1834) C he dL_law_1424 (by decide) (q_widen (by show cells + _ + _ ≤ _; omega) (by show slots + _ + _ ≤ _; omega) (kk _ hI2))
set_option maxHeartbeats 1000000 in
theorem lc_40 {y : Yw} {g : Gw} {b L : Nat} {xs : Nat → Int32} {M : Mw} {cells slots : Nat} {i : Int32} {Inv : Mw → Prop} (hT : gT g = 0) (C : LCw y b L xs g) (hI : Inv M) (hp : PK_sleeps Inv) (h1 : vp_in (i + 1) L) (h2 : vp_in (i + 2) L) (h3 : vp_in (i + 3) L) (h4 : vp_in (i + 4) L) (h5 : vp_in (i + 5) L) (hc : cells + 2 ≤ 600000) (hs : slots + 12 ≤ 7302250) (kk : ∀ M : Mw, Inv M → LSx y g b M (cells + 2) (slots + 12) 1834 i []) : LSx y g b M cells slots 1429 i [] := by
  obtain ⟨r1, r2, e1, e2, he, hI2⟩ := hp M hI (xs (i + 1).toNatClampNeg) (xs (i + 2).toNatClampNeg)
  refine q_x C dL_law_1429 ?_
  refine q_arg (k := 1) C (by decide) dL_law_1430 dL_law_1431 dL_law_1432 dL_law_1433 dL_law_1434 h1 ?_
  refine q_arg (k := 2) C (by decide) dL_law_1435 dL_law_1436 dL_law_1437 dL_law_1438 dL_law_1439 h2 ?_
  refine q_call C (rest := []) (As := [.int (xs (i + 1).toNatClampNeg), .int (xs (i + 2).toNatClampNeg)]) (c_X9_sleeps (xs (i + 1).toNatClampNeg) (xs (i + 2).toNatClampNeg) M) e1 dL_law_1440 u_975 in_41 (contW_41 g _ _ _ _ _) rfl u_976 u_977 mi_X9_sleeps (by decide) (by decide) rfl rfl (by decide) (by omega) (by omega) ?_
  refine q_m C dL_law_1443 ?_
  refine q_arg (k := 1) C (by decide) dL_law_1444 dL_law_1445 dL_law_1446 dL_law_1447 dL_law_1448 h1 ?_
  refine q_arg (k := 2) C (by decide) dL_law_1449 dL_law_1450 dL_law_1451 dL_law_1452 dL_law_1453 h2 ?_
  refine q_call C (rest := [.int r1.1]) (As := [.int (xs (i + 1).toNatClampNeg), .int (xs (i + 2).toNatClampNeg)]) (c_X10_sleeps (xs (i + 1).toNatClampNeg) (xs (i + 2).toNatClampNeg) r1.2) e2 dL_law_1454 u_1593 in_50 (contW_50 g _ _ _ _ _) rfl u_1594 u_1595 mi_X10_sleeps (by decide) (by decide) rfl rfl (Nat.le_of_ble_eq_true rfl) (by omega) (by omega) ?_
  show LSx y g b r2.2 _ _ 1457 i [.int r2.1, .int r1.1]
  exact q_eq (tgt := 1834) C he dL_law_1457 (by decide) (q_widen (by show cells + _ + _ ≤ _; omega) (by show slots + _ + _ ≤ _; omega) (kk _ hI2))
set_option maxHeartbeats 1000000 in
theorem lc_41 {y : Yw} {g : Gw} {b L : Nat} {xs : Nat → Int32} {M : Mw} {cells slots : Nat} {i : Int32} {Inv : Mw → Prop} (hT : gT g = 0) (C : LCw y b L xs g) (hI : Inv M) (hp : PK_caught Inv) (h1 : vp_in (i + 1) L) (h2 : vp_in (i + 2) L) (h3 : vp_in (i + 3) L) (h4 : vp_in (i + 4) L) (h5 : vp_in (i + 5) L) (hc : cells + 2 ≤ 600000) (hs : slots + 12 ≤ 7302250) (kk : ∀ M : Mw, Inv M → LSx y g b M (cells + 2) (slots + 12) 1834 i []) : LSx y g b M cells slots 1462 i [] := by
  obtain ⟨r1, r2, e1, e2, he, hI2⟩ := hp M hI (xs (i + 1).toNatClampNeg)
  refine q_x C dL_law_1462 ?_
  refine q_arg (k := 1) C (by decide) dL_law_1463 dL_law_1464 dL_law_1465 dL_law_1466 dL_law_1467 h1 ?_
  refine q_call C (rest := []) (As := [.int (xs (i + 1).toNatClampNeg)]) (c_X9_caught (xs (i + 1).toNatClampNeg) M) e1 dL_law_1468 u_980 in_41 (contW_41 g _ _ _ _ _) rfl u_981 u_982 mi_X9_caught (by decide) (by decide) rfl rfl (by decide) (by omega) (by omega) ?_
  refine q_m C dL_law_1471 ?_
  refine q_arg (k := 1) C (by decide) dL_law_1472 dL_law_1473 dL_law_1474 dL_law_1475 dL_law_1476 h1 ?_
  refine q_call C (rest := [.int r1]) (As := [.int (xs (i + 1).toNatClampNeg)]) (c_X10_caught (xs (i + 1).toNatClampNeg) M) e2 dL_law_1477 u_1597 in_50 (contW_50 g _ _ _ _ _) rfl u_1598 u_1599 mi_X10_caught (by decide) (by decide) rfl rfl (Nat.le_of_ble_eq_true rfl) (by omega) (by omega) ?_
  show LSx y g b r2.2 _ _ 1480 i [.int r2.1, .int r1]
  exact q_eq (tgt := 1834) C he dL_law_1480 (by decide) (q_widen (by show cells + _ + _ ≤ _; omega) (by show slots + _ + _ ≤ _; omega) (kk _ hI2))
set_option maxHeartbeats 1000000 in
theorem lc_42 {y : Yw} {g : Gw} {b L : Nat} {xs : Nat → Int32} {M : Mw} {cells slots : Nat} {i : Int32} {Inv : Mw → Prop} (hT : gT g = 0) (C : LCw y b L xs g) (hI : Inv M) (hp : PK_without Inv) (h1 : vp_in (i + 1) L) (h2 : vp_in (i + 2) L) (h3 : vp_in (i + 3) L) (h4 : vp_in (i + 4) L) (h5 : vp_in (i + 5) L) (hc : cells + 2 ≤ 600000) (hs : slots + 12 ≤ 7302250) (kk : ∀ M : Mw, Inv M → LSx y g b M (cells + 2) (slots + 12) 1834 i []) : LSx y g b M cells slots 1485 i [] := by
  obtain ⟨r1, r2, e1, e2, he, hI2⟩ := hp M hI (xs (i + 1).toNatClampNeg)
  refine q_x C dL_law_1485 ?_
  refine q_arg (k := 1) C (by decide) dL_law_1486 dL_law_1487 dL_law_1488 dL_law_1489 dL_law_1490 h1 ?_
  refine q_call C (rest := []) (As := [.int (xs (i + 1).toNatClampNeg)]) (c_X9_without (xs (i + 1).toNatClampNeg) M) e1 dL_law_1491 u_996 in_41 (contW_41 g _ _ _ _ _) rfl u_997 u_998 mi_X9_without (by decide) (by decide) rfl rfl (by decide) (by omega) (by omega) ?_
  refine q_m C dL_law_1494 ?_
  refine q_arg (k := 1) C (by decide) dL_law_1495 dL_law_1496 dL_law_1497 dL_law_1498 dL_law_1499 h1 ?_
  refine q_call C (rest := [.int r1.1]) (As := [.int (xs (i + 1).toNatClampNeg)]) (c_X10_without (xs (i + 1).toNatClampNeg) r1.2) e2 dL_law_1500 u_1607 in_50 (contW_50 g _ _ _ _ _) rfl u_1608 u_1609 mi_X10_without (by decide) (by decide) rfl rfl (Nat.le_of_ble_eq_true rfl) (by omega) (by omega) ?_
  show LSx y g b r2.2 _ _ 1503 i [.int r2.1, .int r1.1]
  exact q_eq (tgt := 1834) C he dL_law_1503 (by decide) (q_widen (by show cells + _ + _ ≤ _; omega) (by show slots + _ + _ ≤ _; omega) (kk _ hI2))
set_option maxHeartbeats 1000000 in
theorem lc_43 {y : Yw} {g : Gw} {b L : Nat} {xs : Nat → Int32} {M : Mw} {cells slots : Nat} {i : Int32} {Inv : Mw → Prop} (hT : gT g = 0) (C : LCw y b L xs g) (hI : Inv M) (hp : PK_blame Inv) (h1 : vp_in (i + 1) L) (h2 : vp_in (i + 2) L) (h3 : vp_in (i + 3) L) (h4 : vp_in (i + 4) L) (h5 : vp_in (i + 5) L) (hc : cells + 2 ≤ 600000) (hs : slots + 12 ≤ 7302250) (kk : ∀ M : Mw, Inv M → LSx y g b M (cells + 2) (slots + 12) 1834 i []) : LSx y g b M cells slots 1508 i [] := by
  obtain ⟨r1, r2, e1, e2, he, hI2⟩ := hp M hI
  refine q_x C dL_law_1508 ?_
  refine q_call C (rest := []) (As := []) (c_X9_blame  M) e1 dL_law_1509 u_1013 in_41 (contW_41 g _ _ _ _ _) rfl u_1014 u_1015 mi_X9_blame (by decide) (by decide) rfl rfl (by decide) (by omega) (by omega) ?_
  refine q_m C dL_law_1512 ?_
  refine q_call C (rest := [.int r1.1]) (As := []) (c_X10_blame  r1.2) e2 dL_law_1513 u_1614 in_50 (contW_50 g _ _ _ _ _) rfl u_1615 u_1616 mi_X10_blame (by decide) (by decide) rfl rfl (Nat.le_of_ble_eq_true rfl) (by omega) (by omega) ?_
  show LSx y g b r2.2 _ _ 1516 i [.int r2.1, .int r1.1]
  exact q_eq (tgt := 1834) C he dL_law_1516 (by decide) (q_widen (by show cells + _ + _ ≤ _; omega) (by show slots + _ + _ ≤ _; omega) (kk _ hI2))
set_option maxHeartbeats 1000000 in
theorem lc_44 {y : Yw} {g : Gw} {b L : Nat} {xs : Nat → Int32} {M : Mw} {cells slots : Nat} {i : Int32} {Inv : Mw → Prop} (hT : gT g = 0) (C : LCw y b L xs g) (hI : Inv M) (hp : PK_with Inv) (h1 : vp_in (i + 1) L) (h2 : vp_in (i + 2) L) (h3 : vp_in (i + 3) L) (h4 : vp_in (i + 4) L) (h5 : vp_in (i + 5) L) (hc : cells + 2 ≤ 600000) (hs : slots + 12 ≤ 7302250) (kk : ∀ M : Mw, Inv M → LSx y g b M (cells + 2) (slots + 12) 1834 i []) : LSx y g b M cells slots 1521 i [] := by
  obtain ⟨r1, r2, e1, e2, he, hI2⟩ := hp M hI (xs (i + 1).toNatClampNeg) (xs (i + 2).toNatClampNeg) (xs (i + 3).toNatClampNeg)
  refine q_x C dL_law_1521 ?_
  refine q_arg (k := 1) C (by decide) dL_law_1522 dL_law_1523 dL_law_1524 dL_law_1525 dL_law_1526 h1 ?_
  refine q_arg (k := 2) C (by decide) dL_law_1527 dL_law_1528 dL_law_1529 dL_law_1530 dL_law_1531 h2 ?_
  refine q_arg (k := 3) C (by decide) dL_law_1532 dL_law_1533 dL_law_1534 dL_law_1535 dL_law_1536 h3 ?_
  refine q_call C (rest := []) (As := [.int (xs (i + 1).toNatClampNeg), .int (xs (i + 2).toNatClampNeg), .int (xs (i + 3).toNatClampNeg)]) (c_X9_with (xs (i + 1).toNatClampNeg) (xs (i + 2).toNatClampNeg) (xs (i + 3).toNatClampNeg) M) e1 dL_law_1537 u_1017 in_41 (contW_41 g _ _ _ _ _) rfl u_1018 u_1019 mi_X9_with (by decide) (by decide) rfl rfl (by decide) (by omega) (by omega) ?_
  refine q_m C dL_law_1540 ?_
  refine q_arg (k := 1) C (by decide) dL_law_1541 dL_law_1542 dL_law_1543 dL_law_1544 dL_law_1545 h1 ?_
  refine q_arg (k := 2) C (by decide) dL_law_1546 dL_law_1547 dL_law_1548 dL_law_1549 dL_law_1550 h2 ?_
  refine q_arg (k := 3) C (by decide) dL_law_1551 dL_law_1552 dL_law_1553 dL_law_1554 dL_law_1555 h3 ?_
  refine q_call C (rest := [.int r1.1]) (As := [.int (xs (i + 1).toNatClampNeg), .int (xs (i + 2).toNatClampNeg), .int (xs (i + 3).toNatClampNeg)]) (c_X10_with (xs (i + 1).toNatClampNeg) (xs (i + 2).toNatClampNeg) (xs (i + 3).toNatClampNeg) r1.2) e2 dL_law_1556 u_1618 in_50 (contW_50 g _ _ _ _ _) rfl u_1619 u_1620 mi_X10_with (by decide) (by decide) rfl rfl (Nat.le_of_ble_eq_true rfl) (by omega) (by omega) ?_
  show LSx y g b r2.2 _ _ 1559 i [.int r2.1, .int r1.1]
  exact q_eq (tgt := 1834) C he dL_law_1559 (by decide) (q_widen (by show cells + _ + _ ≤ _; omega) (by show slots + _ + _ ≤ _; omega) (kk _ hI2))
set_option maxHeartbeats 1000000 in
theorem lc_45 {y : Yw} {g : Gw} {b L : Nat} {xs : Nat → Int32} {M : Mw} {cells slots : Nat} {i : Int32} {Inv : Mw → Prop} (hT : gT g = 0) (C : LCw y b L xs g) (hI : Inv M) (hp : PK_tight Inv) (h1 : vp_in (i + 1) L) (h2 : vp_in (i + 2) L) (h3 : vp_in (i + 3) L) (h4 : vp_in (i + 4) L) (h5 : vp_in (i + 5) L) (hc : cells + 2 ≤ 600000) (hs : slots + 12 ≤ 7302250) (kk : ∀ M : Mw, Inv M → LSx y g b M (cells + 2) (slots + 12) 1834 i []) : LSx y g b M cells slots 1564 i [] := by
  obtain ⟨r1, r2, e1, e2, he, hI2⟩ := hp M hI (xs (i + 1).toNatClampNeg)
  refine q_x C dL_law_1564 ?_
  refine q_arg (k := 1) C (by decide) dL_law_1565 dL_law_1566 dL_law_1567 dL_law_1568 dL_law_1569 h1 ?_
  refine q_call C (rest := []) (As := [.int (xs (i + 1).toNatClampNeg)]) (c_X9_tight (xs (i + 1).toNatClampNeg) M) e1 dL_law_1570 u_1025 in_41 (contW_41 g _ _ _ _ _) rfl u_1026 u_1027 mi_X9_tight (by decide) (by decide) rfl rfl (by decide) (by omega) (by omega) ?_
  refine q_m C dL_law_1573 ?_
  refine q_arg (k := 1) C (by decide) dL_law_1574 dL_law_1575 dL_law_1576 dL_law_1577 dL_law_1578 h1 ?_
  refine q_call C (rest := [.int r1.1]) (As := [.int (xs (i + 1).toNatClampNeg)]) (c_X10_tight (xs (i + 1).toNatClampNeg) r1.2) e2 dL_law_1579 u_1627 in_50 (contW_50 g _ _ _ _ _) rfl u_1628 u_1629 mi_X10_tight (by decide) (by decide) rfl rfl (Nat.le_of_ble_eq_true rfl) (by omega) (by omega) ?_
  show LSx y g b r2.2 _ _ 1582 i [.int r2.1, .int r1.1]
  exact q_eq (tgt := 1834) C he dL_law_1582 (by decide) (q_widen (by show cells + _ + _ ≤ _; omega) (by show slots + _ + _ ≤ _; omega) (kk _ hI2))
set_option maxHeartbeats 1000000 in
theorem lc_46 {y : Yw} {g : Gw} {b L : Nat} {xs : Nat → Int32} {M : Mw} {cells slots : Nat} {i : Int32} {Inv : Mw → Prop} (hT : gT g = 0) (C : LCw y b L xs g) (hI : Inv M) (hp : PK_loose Inv) (h1 : vp_in (i + 1) L) (h2 : vp_in (i + 2) L) (h3 : vp_in (i + 3) L) (h4 : vp_in (i + 4) L) (h5 : vp_in (i + 5) L) (hc : cells + 2 ≤ 600000) (hs : slots + 12 ≤ 7302250) (kk : ∀ M : Mw, Inv M → LSx y g b M (cells + 2) (slots + 12) 1834 i []) : LSx y g b M cells slots 1587 i [] := by
  obtain ⟨r1, r2, e1, e2, he, hI2⟩ := hp M hI (xs (i + 1).toNatClampNeg)
  refine q_x C dL_law_1587 ?_
  refine q_arg (k := 1) C (by decide) dL_law_1588 dL_law_1589 dL_law_1590 dL_law_1591 dL_law_1592 h1 ?_
  refine q_call C (rest := []) (As := [.int (xs (i + 1).toNatClampNeg)]) (c_X9_loose (xs (i + 1).toNatClampNeg) M) e1 dL_law_1593 u_1029 in_41 (contW_41 g _ _ _ _ _) rfl u_1030 u_1031 mi_X9_loose (by decide) (by decide) rfl rfl (by decide) (by omega) (by omega) ?_
  refine q_m C dL_law_1596 ?_
  refine q_arg (k := 1) C (by decide) dL_law_1597 dL_law_1598 dL_law_1599 dL_law_1600 dL_law_1601 h1 ?_
  refine q_call C (rest := [.int r1.1]) (As := [.int (xs (i + 1).toNatClampNeg)]) (c_X10_loose (xs (i + 1).toNatClampNeg) r1.2) e2 dL_law_1602 u_1631 in_50 (contW_50 g _ _ _ _ _) rfl u_1632 u_1633 mi_X10_loose (by decide) (by decide) rfl rfl (Nat.le_of_ble_eq_true rfl) (by omega) (by omega) ?_
  show LSx y g b r2.2 _ _ 1605 i [.int r2.1, .int r1.1]
  exact q_eq (tgt := 1834) C he dL_law_1605 (by decide) (q_widen (by show cells + _ + _ ≤ _; omega) (by show slots + _ + _ ≤ _; omega) (kk _ hI2))
set_option maxHeartbeats 1000000 in
theorem lc_47 {y : Yw} {g : Gw} {b L : Nat} {xs : Nat → Int32} {M : Mw} {cells slots : Nat} {i : Int32} {Inv : Mw → Prop} (hT : gT g = 0) (C : LCw y b L xs g) (hI : Inv M) (hp : PK_longest Inv) (h1 : vp_in (i + 1) L) (h2 : vp_in (i + 2) L) (h3 : vp_in (i + 3) L) (h4 : vp_in (i + 4) L) (h5 : vp_in (i + 5) L) (hc : cells + 2 ≤ 600000) (hs : slots + 12 ≤ 7302250) (kk : ∀ M : Mw, Inv M → LSx y g b M (cells + 2) (slots + 12) 1834 i []) : LSx y g b M cells slots 1610 i [] := by
  obtain ⟨r1, r2, e1, e2, he, hI2⟩ := hp M hI (xs (i + 1).toNatClampNeg) (xs (i + 2).toNatClampNeg)
  refine q_x C dL_law_1610 ?_
  refine q_arg (k := 1) C (by decide) dL_law_1611 dL_law_1612 dL_law_1613 dL_law_1614 dL_law_1615 h1 ?_
  refine q_arg (k := 2) C (by decide) dL_law_1616 dL_law_1617 dL_law_1618 dL_law_1619 dL_law_1620 h2 ?_
  refine q_call C (rest := []) (As := [.int (xs (i + 1).toNatClampNeg), .int (xs (i + 2).toNatClampNeg)]) (c_X9_longest (xs (i + 1).toNatClampNeg) (xs (i + 2).toNatClampNeg) M) e1 dL_law_1621 u_1034 in_41 (contW_41 g _ _ _ _ _) rfl u_1035 u_1036 mi_X9_longest (by decide) (by decide) rfl rfl (by decide) (by omega) (by omega) ?_
  refine q_m C dL_law_1624 ?_
  refine q_arg (k := 1) C (by decide) dL_law_1625 dL_law_1626 dL_law_1627 dL_law_1628 dL_law_1629 h1 ?_
  refine q_arg (k := 2) C (by decide) dL_law_1630 dL_law_1631 dL_law_1632 dL_law_1633 dL_law_1634 h2 ?_
  refine q_call C (rest := [.int r1.1]) (As := [.int (xs (i + 1).toNatClampNeg), .int (xs (i + 2).toNatClampNeg)]) (c_X10_longest (xs (i + 1).toNatClampNeg) (xs (i + 2).toNatClampNeg) r1.2) e2 dL_law_1635 u_1635 in_50 (contW_50 g _ _ _ _ _) rfl u_1636 u_1637 mi_X10_longest (by decide) (by decide) rfl rfl (Nat.le_of_ble_eq_true rfl) (by omega) (by omega) ?_
  show LSx y g b r2.2 _ _ 1638 i [.int r2.1, .int r1.1]
  exact q_eq (tgt := 1834) C he dL_law_1638 (by decide) (q_widen (by show cells + _ + _ ≤ _; omega) (by show slots + _ + _ ≤ _; omega) (kk _ hI2))
set_option maxHeartbeats 1000000 in
theorem lc_48 {y : Yw} {g : Gw} {b L : Nat} {xs : Nat → Int32} {M : Mw} {cells slots : Nat} {i : Int32} {Inv : Mw → Prop} (hT : gT g = 0) (C : LCw y b L xs g) (hI : Inv M) (hp : PK_silent Inv) (h1 : vp_in (i + 1) L) (h2 : vp_in (i + 2) L) (h3 : vp_in (i + 3) L) (h4 : vp_in (i + 4) L) (h5 : vp_in (i + 5) L) (hc : cells + 2 ≤ 600000) (hs : slots + 12 ≤ 7302250) (kk : ∀ M : Mw, Inv M → LSx y g b M (cells + 2) (slots + 12) 1834 i []) : LSx y g b M cells slots 1643 i [] := by
  obtain ⟨r1, r2, e1, e2, he, hI2⟩ := hp M hI (xs (i + 1).toNatClampNeg) (xs (i + 2).toNatClampNeg)
  refine q_x C dL_law_1643 ?_
  refine q_arg (k := 1) C (by decide) dL_law_1644 dL_law_1645 dL_law_1646 dL_law_1647 dL_law_1648 h1 ?_
  refine q_arg (k := 2) C (by decide) dL_law_1649 dL_law_1650 dL_law_1651 dL_law_1652 dL_law_1653 h2 ?_
  refine q_call C (rest := []) (As := [.int (xs (i + 1).toNatClampNeg), .int (xs (i + 2).toNatClampNeg)]) (c_X9_silent (xs (i + 1).toNatClampNeg) (xs (i + 2).toNatClampNeg) M) e1 dL_law_1654 u_1066 in_41 (contW_41 g _ _ _ _ _) rfl u_1067 u_1068 mi_X9_silent (by decide) (by decide) rfl rfl (by decide) (by omega) (by omega) ?_
  refine q_m C dL_law_1657 ?_
  refine q_arg (k := 1) C (by decide) dL_law_1658 dL_law_1659 dL_law_1660 dL_law_1661 dL_law_1662 h1 ?_
  refine q_arg (k := 2) C (by decide) dL_law_1663 dL_law_1664 dL_law_1665 dL_law_1666 dL_law_1667 h2 ?_
  refine q_call C (rest := [.int r1.1]) (As := [.int (xs (i + 1).toNatClampNeg), .int (xs (i + 2).toNatClampNeg)]) (c_X10_silent (xs (i + 1).toNatClampNeg) (xs (i + 2).toNatClampNeg) r1.2) e2 dL_law_1668 u_1645 in_50 (contW_50 g _ _ _ _ _) rfl u_1646 u_1647 mi_X10_silent (by decide) (by decide) rfl rfl (Nat.le_of_ble_eq_true rfl) (by omega) (by omega) ?_
  show LSx y g b r2.2 _ _ 1671 i [.int r2.1, .int r1.1]
  exact q_eq (tgt := 1834) C he dL_law_1671 (by decide) (q_widen (by show cells + _ + _ ≤ _; omega) (by show slots + _ + _ ≤ _; omega) (kk _ hI2))
set_option maxHeartbeats 1000000 in
theorem lc_49 {y : Yw} {g : Gw} {b L : Nat} {xs : Nat → Int32} {M : Mw} {cells slots : Nat} {i : Int32} {Inv : Mw → Prop} (hT : gT g = 0) (C : LCw y b L xs g) (hI : Inv M) (hp : PK_inject Inv) (h1 : vp_in (i + 1) L) (h2 : vp_in (i + 2) L) (h3 : vp_in (i + 3) L) (h4 : vp_in (i + 4) L) (h5 : vp_in (i + 5) L) (hc : cells + 2 ≤ 600000) (hs : slots + 12 ≤ 7302250) (kk : ∀ M : Mw, Inv M → LSx y g b M (cells + 2) (slots + 12) 1834 i []) : LSx y g b M cells slots 1676 i [] := by
  obtain ⟨r1, r2, e1, e2, he, hI2⟩ := hp M hI (xs (i + 1).toNatClampNeg) (xs (i + 2).toNatClampNeg) (xs (i + 3).toNatClampNeg) (xs (i + 4).toNatClampNeg) (xs (i + 5).toNatClampNeg)
  refine q_x C dL_law_1676 ?_
  refine q_arg (k := 1) C (by decide) dL_law_1677 dL_law_1678 dL_law_1679 dL_law_1680 dL_law_1681 h1 ?_
  refine q_arg (k := 2) C (by decide) dL_law_1682 dL_law_1683 dL_law_1684 dL_law_1685 dL_law_1686 h2 ?_
  refine q_arg (k := 3) C (by decide) dL_law_1687 dL_law_1688 dL_law_1689 dL_law_1690 dL_law_1691 h3 ?_
  refine q_arg (k := 4) C (by decide) dL_law_1692 dL_law_1693 dL_law_1694 dL_law_1695 dL_law_1696 h4 ?_
  refine q_arg (k := 5) C (by decide) dL_law_1697 dL_law_1698 dL_law_1699 dL_law_1700 dL_law_1701 h5 ?_
  refine q_call C (rest := []) (As := [.int (xs (i + 1).toNatClampNeg), .int (xs (i + 2).toNatClampNeg), .int (xs (i + 3).toNatClampNeg), .int (xs (i + 4).toNatClampNeg), .int (xs (i + 5).toNatClampNeg)]) (c_X9_inject (xs (i + 1).toNatClampNeg) (xs (i + 2).toNatClampNeg) (xs (i + 3).toNatClampNeg) (xs (i + 4).toNatClampNeg) (xs (i + 5).toNatClampNeg) M) e1 dL_law_1702 u_1070 in_41 (contW_41 g _ _ _ _ _) rfl u_1071 u_1072 mi_X9_inject (by decide) (by decide) rfl rfl (by decide) (by omega) (by omega) ?_
  refine q_m C dL_law_1705 ?_
  refine q_arg (k := 1) C (by decide) dL_law_1706 dL_law_1707 dL_law_1708 dL_law_1709 dL_law_1710 h1 ?_
  refine q_arg (k := 2) C (by decide) dL_law_1711 dL_law_1712 dL_law_1713 dL_law_1714 dL_law_1715 h2 ?_
  refine q_arg (k := 3) C (by decide) dL_law_1716 dL_law_1717 dL_law_1718 dL_law_1719 dL_law_1720 h3 ?_
  refine q_arg (k := 4) C (by decide) dL_law_1721 dL_law_1722 dL_law_1723 dL_law_1724 dL_law_1725 h4 ?_
  refine q_arg (k := 5) C (by decide) dL_law_1726 dL_law_1727 dL_law_1728 dL_law_1729 dL_law_1730 h5 ?_
  refine q_call C (rest := [.int r1.1]) (As := [.int (xs (i + 1).toNatClampNeg), .int (xs (i + 2).toNatClampNeg), .int (xs (i + 3).toNatClampNeg), .int (xs (i + 4).toNatClampNeg), .int (xs (i + 5).toNatClampNeg)]) (c_X10_inject (xs (i + 1).toNatClampNeg) (xs (i + 2).toNatClampNeg) (xs (i + 3).toNatClampNeg) (xs (i + 4).toNatClampNeg) (xs (i + 5).toNatClampNeg) r1.2) e2 dL_law_1731 u_1649 in_50 (contW_50 g _ _ _ _ _) rfl u_1650 u_1651 mi_X10_inject (by decide) (by decide) rfl rfl (Nat.le_of_ble_eq_true rfl) (by omega) (by omega) ?_
  show LSx y g b r2.2 _ _ 1734 i [.int r2.1, .int r1.1]
  exact q_eq (tgt := 1834) C he dL_law_1734 (by decide) (q_widen (by show cells + _ + _ ≤ _; omega) (by show slots + _ + _ ≤ _; omega) (kk _ hI2))
set_option maxHeartbeats 1000000 in
theorem lc_50 {y : Yw} {g : Gw} {b L : Nat} {xs : Nat → Int32} {M : Mw} {cells slots : Nat} {i : Int32} {Inv : Mw → Prop} (hT : gT g = 0) (C : LCw y b L xs g) (hI : Inv M) (hp : PK_undo Inv) (h1 : vp_in (i + 1) L) (h2 : vp_in (i + 2) L) (h3 : vp_in (i + 3) L) (h4 : vp_in (i + 4) L) (h5 : vp_in (i + 5) L) (hc : cells + 2 ≤ 600000) (hs : slots + 12 ≤ 7302250) (kk : ∀ M : Mw, Inv M → LSx y g b M (cells + 2) (slots + 12) 1834 i []) : LSx y g b M cells slots 1739 i [] := by
  obtain ⟨r1, r2, e1, e2, he, hI2⟩ := hp M hI
  refine q_x C dL_law_1739 ?_
  refine q_call C (rest := []) (As := []) (c_X9_undo  M) e1 dL_law_1740 u_1080 in_41 (contW_41 g _ _ _ _ _) rfl u_1081 u_1082 mi_X9_undo (by decide) (by decide) rfl rfl (by decide) (by omega) (by omega) ?_
  refine q_m C dL_law_1743 ?_
  refine q_call C (rest := [.int r1.1]) (As := []) (c_X10_undo  r1.2) e2 dL_law_1744 u_1658 in_50 (contW_50 g _ _ _ _ _) rfl u_1659 u_1660 mi_X10_undo (by decide) (by decide) rfl rfl (Nat.le_of_ble_eq_true rfl) (by omega) (by omega) ?_
  show LSx y g b r2.2 _ _ 1747 i [.int r2.1, .int r1.1]
  exact q_eq (tgt := 1834) C he dL_law_1747 (by decide) (q_widen (by show cells + _ + _ ≤ _; omega) (by show slots + _ + _ ≤ _; omega) (kk _ hI2))
set_option maxHeartbeats 1000000 in
theorem lc_51 {y : Yw} {g : Gw} {b L : Nat} {xs : Nat → Int32} {M : Mw} {cells slots : Nat} {i : Int32} {Inv : Mw → Prop} (hT : gT g = 0) (C : LCw y b L xs g) (hI : Inv M) (hp : PK_anew Inv) (h1 : vp_in (i + 1) L) (h2 : vp_in (i + 2) L) (h3 : vp_in (i + 3) L) (h4 : vp_in (i + 4) L) (h5 : vp_in (i + 5) L) (hc : cells + 2 ≤ 600000) (hs : slots + 12 ≤ 7302250) (kk : ∀ M : Mw, Inv M → LSx y g b M (cells + 2) (slots + 12) 1834 i []) : LSx y g b M cells slots 1752 i [] := by
  obtain ⟨r1, r2, e1, e2, he, hI2⟩ := hp M hI
  refine q_x C dL_law_1752 ?_
  refine q_call C (rest := []) (As := []) (c_X9_anew  M) e1 dL_law_1753 u_1084 in_41 (contW_41 g _ _ _ _ _) rfl u_1085 u_1086 mi_X9_anew (by decide) (by decide) rfl rfl (by decide) (by omega) (by omega) ?_
  refine q_m C dL_law_1756 ?_
  refine q_call C (rest := [.int r1.1]) (As := []) (c_X10_anew  r1.2) e2 dL_law_1757 u_1662 in_50 (contW_50 g _ _ _ _ _) rfl u_1663 u_1664 mi_X10_anew (by decide) (by decide) rfl rfl (Nat.le_of_ble_eq_true rfl) (by omega) (by omega) ?_
  show LSx y g b r2.2 _ _ 1760 i [.int r2.1, .int r1.1]
  exact q_eq (tgt := 1834) C he dL_law_1760 (by decide) (q_widen (by show cells + _ + _ ≤ _; omega) (by show slots + _ + _ ≤ _; omega) (kk _ hI2))
set_option maxHeartbeats 1000000 in
theorem lc_52 {y : Yw} {g : Gw} {b L : Nat} {xs : Nat → Int32} {M : Mw} {cells slots : Nat} {i : Int32} {Inv : Mw → Prop} (hT : gT g = 0) (C : LCw y b L xs g) (hI : Inv M) (hp : PK_count Inv) (h1 : vp_in (i + 1) L) (h2 : vp_in (i + 2) L) (h3 : vp_in (i + 3) L) (h4 : vp_in (i + 4) L) (h5 : vp_in (i + 5) L) (hc : cells + 2 ≤ 600000) (hs : slots + 12 ≤ 7302250) (kk : ∀ M : Mw, Inv M → LSx y g b M (cells + 2) (slots + 12) 1834 i []) : LSx y g b M cells slots 1765 i [] := by
  obtain ⟨r1, r2, e1, e2, he, hI2⟩ := hp M hI (xs (i + 1).toNatClampNeg)
  refine q_x C dL_law_1765 ?_
  refine q_arg (k := 1) C (by decide) dL_law_1766 dL_law_1767 dL_law_1768 dL_law_1769 dL_law_1770 h1 ?_
  refine q_call C (rest := []) (As := [.int (xs (i + 1).toNatClampNeg)]) (c_X9_count (xs (i + 1).toNatClampNeg) M) e1 dL_law_1771 u_1088 in_41 (contW_41 g _ _ _ _ _) rfl u_1089 u_1090 mi_X9_count (by decide) (by decide) rfl rfl (by decide) (by omega) (by omega) ?_
  refine q_m C dL_law_1774 ?_
  refine q_arg (k := 1) C (by decide) dL_law_1775 dL_law_1776 dL_law_1777 dL_law_1778 dL_law_1779 h1 ?_
  refine q_call C (rest := [.int r1]) (As := [.int (xs (i + 1).toNatClampNeg)]) (c_X10_count (xs (i + 1).toNatClampNeg) M) e2 dL_law_1780 u_1666 in_50 (contW_50 g _ _ _ _ _) rfl u_1667 u_1668 mi_X10_count (by decide) (by decide) rfl rfl (Nat.le_of_ble_eq_true rfl) (by omega) (by omega) ?_
  show LSx y g b M _ _ 1783 i [.int r2, .int r1]
  exact q_eq (tgt := 1834) C he dL_law_1783 (by decide) (q_widen (by show cells + _ + _ ≤ _; omega) (by show slots + _ + _ ≤ _; omega) (kk _ hI2))
set_option maxHeartbeats 1000000 in
theorem lc_53 {y : Yw} {g : Gw} {b L : Nat} {xs : Nat → Int32} {M : Mw} {cells slots : Nat} {i : Int32} {Inv : Mw → Prop} (hT : gT g = 0) (C : LCw y b L xs g) (hI : Inv M) (hp : PK_image Inv) (h1 : vp_in (i + 1) L) (h2 : vp_in (i + 2) L) (h3 : vp_in (i + 3) L) (h4 : vp_in (i + 4) L) (h5 : vp_in (i + 5) L) (hc : cells + 2 ≤ 600000) (hs : slots + 12 ≤ 7302250) (kk : ∀ M : Mw, Inv M → LSx y g b M (cells + 2) (slots + 12) 1834 i []) : LSx y g b M cells slots 1788 i [] := by
  obtain ⟨r1, r2, e1, e2, he, hI2⟩ := hp M hI (xs (i + 1).toNatClampNeg)
  refine q_x C dL_law_1788 ?_
  refine q_arg (k := 1) C (by decide) dL_law_1789 dL_law_1790 dL_law_1791 dL_law_1792 dL_law_1793 h1 ?_
  refine q_call C (rest := []) (As := [.int (xs (i + 1).toNatClampNeg)]) (c_X9_image (xs (i + 1).toNatClampNeg) M) e1 dL_law_1794 u_1092 in_41 (contW_41 g _ _ _ _ _) rfl u_1093 u_1094 mi_X9_image (by decide) (by decide) rfl rfl (by decide) (by omega) (by omega) ?_
  refine q_m C dL_law_1797 ?_
  refine q_arg (k := 1) C (by decide) dL_law_1798 dL_law_1799 dL_law_1800 dL_law_1801 dL_law_1802 h1 ?_
  refine q_call C (rest := [.int r1.1]) (As := [.int (xs (i + 1).toNatClampNeg)]) (c_X10_image (xs (i + 1).toNatClampNeg) r1.2) e2 dL_law_1803 u_1169 in_50 (contW_50 g _ _ _ _ _) rfl u_1170 u_1171 mi_X10_image (by decide) (by decide) rfl rfl (Nat.le_of_ble_eq_true rfl) (by omega) (by omega) ?_
  show LSx y g b r2.2 _ _ 1806 i [.int r2.1, .int r1.1]
  exact q_eq (tgt := 1834) C he dL_law_1806 (by decide) (q_widen (by show cells + _ + _ ≤ _; omega) (by show slots + _ + _ ≤ _; omega) (kk _ hI2))
set_option maxHeartbeats 1000000 in
theorem lc_54 {y : Yw} {g : Gw} {b L : Nat} {xs : Nat → Int32} {M : Mw} {cells slots : Nat} {i : Int32} {Inv : Mw → Prop} (hT : gT g = 0) (C : LCw y b L xs g) (hI : Inv M) (hp : PK_back Inv) (h1 : vp_in (i + 1) L) (h2 : vp_in (i + 2) L) (h3 : vp_in (i + 3) L) (h4 : vp_in (i + 4) L) (h5 : vp_in (i + 5) L) (hc : cells + 2 ≤ 600000) (hs : slots + 12 ≤ 7302250) (kk : ∀ M : Mw, Inv M → LSx y g b M (cells + 2) (slots + 12) 1834 i []) : LSx y g b M cells slots 1811 i [] := by
  obtain ⟨r1, r2, e1, e2, he, hI2⟩ := hp M hI (xs (i + 1).toNatClampNeg)
  refine q_x C dL_law_1811 ?_
  refine q_arg (k := 1) C (by decide) dL_law_1812 dL_law_1813 dL_law_1814 dL_law_1815 dL_law_1816 h1 ?_
  refine q_call C (rest := []) (As := [.int (xs (i + 1).toNatClampNeg)]) (c_X9_back (xs (i + 1).toNatClampNeg) M) e1 dL_law_1817 u_1096 in_41 (contW_41 g _ _ _ _ _) rfl u_1097 u_1098 mi_X9_back (by decide) (by decide) rfl rfl (by decide) (by omega) (by omega) ?_
  refine q_m C dL_law_1820 ?_
  refine q_arg (k := 1) C (by decide) dL_law_1821 dL_law_1822 dL_law_1823 dL_law_1824 dL_law_1825 h1 ?_
  refine q_call C (rest := [.int r1.1]) (As := [.int (xs (i + 1).toNatClampNeg)]) (c_X10_back (xs (i + 1).toNatClampNeg) r1.2) e2 dL_law_1826 u_1177 in_50 (contW_50 g _ _ _ _ _) rfl u_1178 u_1179 mi_X10_back (by decide) (by decide) rfl rfl (Nat.le_of_ble_eq_true rfl) (by omega) (by omega) ?_
  show LSx y g b r2.2 _ _ 1829 i [.int r2.1, .int r1.1]
  exact q_eq (tgt := 1834) C he dL_law_1829 (by decide) (q_widen (by show cells + _ + _ ≤ _; omega) (by show slots + _ + _ ≤ _; omega) (kk _ hI2))
