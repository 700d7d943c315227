set_option maxRecDepth 20000 in
theorem la_c26 {p : Program} {l : Launch} {e : Env} {s : State} {m : MethodId} {below : List Frame} {meth : Method} {c : Code} {b L : Nat} {xs : Nat → Int32} {D : va_G} {ad : Nat → Nat} {ca : Nat → ClassId} {i : Int32} {M N : nb_M} {H : Heap} {locs : List Loc} {ls : Array Slot} (A : la_A p s m meth c b L xs D ad ca) (R : hs_Rel M N) (hI : la_I i L) (hP : va_P D vwCl (nb_w ad ca M N) H) (hS : va_S (fun q : Nat => s.heap.size ≤ q) s.heap H locs) (hl : lv_has ls 4 [(0, .ref b), (1, .ref (ad 0)), (2, .ref (ad 52)), (3, .int i)]) (kk : la_G p l e s m below meth c b D ad ca ls) : W p l e room_1 s m #[Value.ref b] below meth c H locs 600000 7302250 (lw_Z below #[Value.ref b] s) (F0 m 1070 ls []) := by
  obtain ⟨⟨hx, hb, hr, hml, hown, hts, hX, hbl, hlocks, hgv⟩, had, hK, hZ, ht⟩ := A
  obtain ⟨h1, h2, h3, h4, h5⟩ := hI
  obtain ⟨v, M1, N1, e1, e2, R1⟩ := s_body R (xs (i + 1).toNatClampNeg)
  refine lv_aload_n hx hb dL_law_1070 rfl (lv_at hl 1 rfl) ?_
  refine la_ld (j := 1) hx hb hX hbl hS hl h1 (by decide) dL_law_1071 dL_law_1072 dL_law_1073 dL_law_1074 dL_law_1075 ?_
  refine la_callV (n := 1) (As := [.int (xs (i + 1).toNatClampNeg)]) (rest := []) hx hb hml hown ht hK hZ hP hS (k_X6_body had M N _ e1) gL_law_X6_body rfl (by decide +kernel) ⟨(Nat.le_of_ble_eq_true rfl), (Nat.le_of_ble_eq_true rfl)⟩ nb_a0 rfl rfl rfl hl.1 rfl (Nat.le_of_ble_eq_true rfl) dL_law_1076 (fun H locs hP hS => ?_)
  refine lv_aload_n hx hb dL_law_1079 rfl (lv_at hl 2 rfl) ?_
  refine la_ld (j := 1) hx hb hX hbl hS hl h1 (by decide) dL_law_1080 dL_law_1081 dL_law_1082 dL_law_1083 dL_law_1084 ?_
  refine la_callV (n := 1) (As := [.int (xs (i + 1).toNatClampNeg)]) (rest := [.int v]) hx hb hml hown ht hK hZ hP hS (k_X7_body had N M1 _ e2) gL_law_X7_body rfl (by decide +kernel) ⟨(Nat.le_of_ble_eq_true rfl), (Nat.le_of_ble_eq_true rfl)⟩ nb_a52 rfl rfl rfl hl.1 rfl (Nat.le_of_ble_eq_true rfl) dL_law_1085 (fun H locs hP hS => ?_)
  exact lv_icmp_eq (tgt := 1396) hx hb dL_law_1088 (by decide) (fun _ => kk M1 N1 H locs R1 hP hS) (fun q => absurd rfl q)
set_option maxRecDepth 20000 in
theorem la_c27 {p : Program} {l : Launch} {e : Env} {s : State} {m : MethodId} {below : List Frame} {meth : Method} {c : Code} {b L : Nat} {xs : Nat → Int32} {D : va_G} {ad : Nat → Nat} {ca : Nat → ClassId} {i : Int32} {M N : nb_M} {H : Heap} {locs : List Loc} {ls : Array Slot} (A : la_A p s m meth c b L xs D ad ca) (R : hs_Rel M N) (hI : la_I i L) (hP : va_P D vwCl (nb_w ad ca M N) H) (hS : va_S (fun q : Nat => s.heap.size ≤ q) s.heap H locs) (hl : lv_has ls 4 [(0, .ref b), (1, .ref (ad 0)), (2, .ref (ad 52)), (3, .int i)]) (kk : la_G p l e s m below meth c b D ad ca ls) : W p l e room_1 s m #[Value.ref b] below meth c H locs 600000 7302250 (lw_Z below #[Value.ref b] s) (F0 m 1093 ls []) := by
  obtain ⟨⟨hx, hb, hr, hml, hown, hts, hX, hbl, hlocks, hgv⟩, had, hK, hZ, ht⟩ := A
  obtain ⟨h1, h2, h3, h4, h5⟩ := hI
  obtain ⟨v, M1, N1, e1, e2, R1⟩ := s_sheet R (xs (i + 1).toNatClampNeg) (xs (i + 2).toNatClampNeg) (xs (i + 3).toNatClampNeg)
  refine lv_aload_n hx hb dL_law_1093 rfl (lv_at hl 1 rfl) ?_
  refine la_ld (j := 1) hx hb hX hbl hS hl h1 (by decide) dL_law_1094 dL_law_1095 dL_law_1096 dL_law_1097 dL_law_1098 ?_
  refine la_ld (j := 2) hx hb hX hbl hS hl h2 (by decide) dL_law_1099 dL_law_1100 dL_law_1101 dL_law_1102 dL_law_1103 ?_
  refine la_ld (j := 3) hx hb hX hbl hS hl h3 (by decide) dL_law_1104 dL_law_1105 dL_law_1106 dL_law_1107 dL_law_1108 ?_
  refine la_callV (n := 3) (As := [.int (xs (i + 1).toNatClampNeg), .int (xs (i + 2).toNatClampNeg), .int (xs (i + 3).toNatClampNeg)]) (rest := []) hx hb hml hown ht hK hZ hP hS (k_X6_sheet had M N _ _ _ e1) gL_law_X6_sheet rfl (by decide +kernel) ⟨(Nat.le_of_ble_eq_true rfl), (Nat.le_of_ble_eq_true rfl)⟩ nb_a0 rfl rfl rfl hl.1 rfl (Nat.le_of_ble_eq_true rfl) dL_law_1109 (fun H locs hP hS => ?_)
  refine lv_aload_n hx hb dL_law_1112 rfl (lv_at hl 2 rfl) ?_
  refine la_ld (j := 1) hx hb hX hbl hS hl h1 (by decide) dL_law_1113 dL_law_1114 dL_law_1115 dL_law_1116 dL_law_1117 ?_
  refine la_ld (j := 2) hx hb hX hbl hS hl h2 (by decide) dL_law_1118 dL_law_1119 dL_law_1120 dL_law_1121 dL_law_1122 ?_
  refine la_ld (j := 3) hx hb hX hbl hS hl h3 (by decide) dL_law_1123 dL_law_1124 dL_law_1125 dL_law_1126 dL_law_1127 ?_
  refine la_callV (n := 3) (As := [.int (xs (i + 1).toNatClampNeg), .int (xs (i + 2).toNatClampNeg), .int (xs (i + 3).toNatClampNeg)]) (rest := [.int v]) hx hb hml hown ht hK hZ hP hS (k_X7_sheet had N M1 _ _ _ e2) gL_law_X7_sheet rfl (by decide +kernel) ⟨(Nat.le_of_ble_eq_true rfl), (Nat.le_of_ble_eq_true rfl)⟩ nb_a52 rfl rfl rfl hl.1 rfl (Nat.le_of_ble_eq_true rfl) dL_law_1128 (fun H locs hP hS => ?_)
  exact lv_icmp_eq (tgt := 1396) hx hb dL_law_1131 (by decide) (fun _ => kk M1 N1 H locs R1 hP hS) (fun q => absurd rfl q)
set_option maxRecDepth 20000 in
theorem la_c28 {p : Program} {l : Launch} {e : Env} {s : State} {m : MethodId} {below : List Frame} {meth : Method} {c : Code} {b L : Nat} {xs : Nat → Int32} {D : va_G} {ad : Nat → Nat} {ca : Nat → ClassId} {i : Int32} {M N : nb_M} {H : Heap} {locs : List Loc} {ls : Array Slot} (A : la_A p s m meth c b L xs D ad ca) (R : hs_Rel M N) (hI : la_I i L) (hP : va_P D vwCl (nb_w ad ca M N) H) (hS : va_S (fun q : Nat => s.heap.size ≤ q) s.heap H locs) (hl : lv_has ls 4 [(0, .ref b), (1, .ref (ad 0)), (2, .ref (ad 52)), (3, .int i)]) (kk : la_G p l e s m below meth c b D ad ca ls) : W p l e room_1 s m #[Value.ref b] below meth c H locs 600000 7302250 (lw_Z below #[Value.ref b] s) (F0 m 1136 ls []) := by
  obtain ⟨⟨hx, hb, hr, hml, hown, hts, hX, hbl, hlocks, hgv⟩, had, hK, hZ, ht⟩ := A
  obtain ⟨h1, h2, h3, h4, h5⟩ := hI
  obtain ⟨v, M1, N1, e1, e2, R1⟩ := s_put R (xs (i + 1).toNatClampNeg) (xs (i + 2).toNatClampNeg) (xs (i + 3).toNatClampNeg)
  refine lv_aload_n hx hb dL_law_1136 rfl (lv_at hl 1 rfl) ?_
  refine la_ld (j := 1) hx hb hX hbl hS hl h1 (by decide) dL_law_1137 dL_law_1138 dL_law_1139 dL_law_1140 dL_law_1141 ?_
  refine la_ld (j := 2) hx hb hX hbl hS hl h2 (by decide) dL_law_1142 dL_law_1143 dL_law_1144 dL_law_1145 dL_law_1146 ?_
  refine la_ld (j := 3) hx hb hX hbl hS hl h3 (by decide) dL_law_1147 dL_law_1148 dL_law_1149 dL_law_1150 dL_law_1151 ?_
  refine la_callV (n := 3) (As := [.int (xs (i + 1).toNatClampNeg), .int (xs (i + 2).toNatClampNeg), .int (xs (i + 3).toNatClampNeg)]) (rest := []) hx hb hml hown ht hK hZ hP hS (k_X6_put had M N _ _ _ e1) gL_law_X6_put rfl (by decide +kernel) ⟨(Nat.le_of_ble_eq_true rfl), (Nat.le_of_ble_eq_true rfl)⟩ nb_a0 rfl rfl rfl hl.1 rfl (Nat.le_of_ble_eq_true rfl) dL_law_1152 (fun H locs hP hS => ?_)
  refine lv_aload_n hx hb dL_law_1155 rfl (lv_at hl 2 rfl) ?_
  refine la_ld (j := 1) hx hb hX hbl hS hl h1 (by decide) dL_law_1156 dL_law_1157 dL_law_1158 dL_law_1159 dL_law_1160 ?_
  refine la_ld (j := 2) hx hb hX hbl hS hl h2 (by decide) dL_law_1161 dL_law_1162 dL_law_1163 dL_law_1164 dL_law_1165 ?_
  refine la_ld (j := 3) hx hb hX hbl hS hl h3 (by decide) dL_law_1166 dL_law_1167 dL_law_1168 dL_law_1169 dL_law_1170 ?_
  refine la_callV (n := 3) (As := [.int (xs (i + 1).toNatClampNeg), .int (xs (i + 2).toNatClampNeg), .int (xs (i + 3).toNatClampNeg)]) (rest := [.int v]) hx hb hml hown ht hK hZ hP hS (k_X7_put had N M1 _ _ _ e2) gL_law_X7_put rfl (by decide +kernel) ⟨(Nat.le_of_ble_eq_true rfl), (Nat.le_of_ble_eq_true rfl)⟩ nb_a52 rfl rfl rfl hl.1 rfl (Nat.le_of_ble_eq_true rfl) dL_law_1171 (fun H locs hP hS => ?_)
  exact lv_icmp_eq (tgt := 1396) hx hb dL_law_1174 (by decide) (fun _ => kk M1 N1 H locs R1 hP hS) (fun q => absurd rfl q)
set_option maxRecDepth 20000 in
theorem la_c29 {p : Program} {l : Launch} {e : Env} {s : State} {m : MethodId} {below : List Frame} {meth : Method} {c : Code} {b L : Nat} {xs : Nat → Int32} {D : va_G} {ad : Nat → Nat} {ca : Nat → ClassId} {i : Int32} {M N : nb_M} {H : Heap} {locs : List Loc} {ls : Array Slot} (A : la_A p s m meth c b L xs D ad ca) (R : hs_Rel M N) (hI : la_I i L) (hP : va_P D vwCl (nb_w ad ca M N) H) (hS : va_S (fun q : Nat => s.heap.size ≤ q) s.heap H locs) (hl : lv_has ls 4 [(0, .ref b), (1, .ref (ad 0)), (2, .ref (ad 52)), (3, .int i)]) (kk : la_G p l e s m below meth c b D ad ca ls) : W p l e room_1 s m #[Value.ref b] below meth c H locs 600000 7302250 (lw_Z below #[Value.ref b] s) (F0 m 1179 ls []) := by
  obtain ⟨⟨hx, hb, hr, hml, hown, hts, hX, hbl, hlocks, hgv⟩, had, hK, hZ, ht⟩ := A
  obtain ⟨h1, h2, h3, h4, h5⟩ := hI
  obtain ⟨v, M1, N1, e1, e2, R1⟩ := s_move R (xs (i + 1).toNatClampNeg) (xs (i + 2).toNatClampNeg) (xs (i + 3).toNatClampNeg) (xs (i + 4).toNatClampNeg) (xs (i + 5).toNatClampNeg)
  refine lv_aload_n hx hb dL_law_1179 rfl (lv_at hl 1 rfl) ?_
  refine la_ld (j := 1) hx hb hX hbl hS hl h1 (by decide) dL_law_1180 dL_law_1181 dL_law_1182 dL_law_1183 dL_law_1184 ?_
  refine la_ld (j := 2) hx hb hX hbl hS hl h2 (by decide) dL_law_1185 dL_law_1186 dL_law_1187 dL_law_1188 dL_law_1189 ?_
  refine la_ld (j := 3) hx hb hX hbl hS hl h3 (by decide) dL_law_1190 dL_law_1191 dL_law_1192 dL_law_1193 dL_law_1194 ?_
  refine la_ld (j := 4) hx hb hX hbl hS hl h4 (by decide) dL_law_1195 dL_law_1196 dL_law_1197 dL_law_1198 dL_law_1199 ?_
  refine la_ld (j := 5) hx hb hX hbl hS hl h5 (by decide) dL_law_1200 dL_law_1201 dL_law_1202 dL_law_1203 dL_law_1204 ?_
  refine la_callV (n := 5) (As := [.int (xs (i + 1).toNatClampNeg), .int (xs (i + 2).toNatClampNeg), .int (xs (i + 3).toNatClampNeg), .int (xs (i + 4).toNatClampNeg), .int (xs (i + 5).toNatClampNeg)]) (rest := []) hx hb hml hown ht hK hZ hP hS (k_X6_move had M N _ _ _ _ _ e1) gL_law_X6_move rfl (by decide +kernel) ⟨(Nat.le_of_ble_eq_true rfl), (Nat.le_of_ble_eq_true rfl)⟩ nb_a0 rfl rfl rfl hl.1 rfl (Nat.le_of_ble_eq_true rfl) dL_law_1205 (fun H locs hP hS => ?_)
  refine lv_aload_n hx hb dL_law_1208 rfl (lv_at hl 2 rfl) ?_
  refine la_ld (j := 1) hx hb hX hbl hS hl h1 (by decide) dL_law_1209 dL_law_1210 dL_law_1211 dL_law_1212 dL_law_1213 ?_
  refine la_ld (j := 2) hx hb hX hbl hS hl h2 (by decide) dL_law_1214 dL_law_1215 dL_law_1216 dL_law_1217 dL_law_1218 ?_
  refine la_ld (j := 3) hx hb hX hbl hS hl h3 (by decide) dL_law_1219 dL_law_1220 dL_law_1221 dL_law_1222 dL_law_1223 ?_
  refine la_ld (j := 4) hx hb hX hbl hS hl h4 (by decide) dL_law_1224 dL_law_1225 dL_law_1226 dL_law_1227 dL_law_1228 ?_
  refine la_ld (j := 5) hx hb hX hbl hS hl h5 (by decide) dL_law_1229 dL_law_1230 dL_law_1231 dL_law_1232 dL_law_1233 ?_
  refine la_callV (n := 5) (As := [.int (xs (i + 1).toNatClampNeg), .int (xs (i + 2).toNatClampNeg), .int (xs (i + 3).toNatClampNeg), .int (xs (i + 4).toNatClampNeg), .int (xs (i + 5).toNatClampNeg)]) (rest := [.int v]) hx hb hml hown ht hK hZ hP hS (k_X7_move had N M1 _ _ _ _ _ e2) gL_law_X7_move rfl (by decide +kernel) ⟨(Nat.le_of_ble_eq_true rfl), (Nat.le_of_ble_eq_true rfl)⟩ nb_a52 rfl rfl rfl hl.1 rfl (Nat.le_of_ble_eq_true rfl) dL_law_1234 (fun H locs hP hS => ?_)
  exact lv_icmp_eq (tgt := 1396) hx hb dL_law_1237 (by decide) (fun _ => kk M1 N1 H locs R1 hP hS) (fun q => absurd rfl q)
set_option maxRecDepth 20000 in
theorem la_c30 {p : Program} {l : Launch} {e : Env} {s : State} {m : MethodId} {below : List Frame} {meth : Method} {c : Code} {b L : Nat} {xs : Nat → Int32} {D : va_G} {ad : Nat → Nat} {ca : Nat → ClassId} {i : Int32} {M N : nb_M} {H : Heap} {locs : List Loc} {ls : Array Slot} (A : la_A p s m meth c b L xs D ad ca) (R : hs_Rel M N) (hI : la_I i L) (hP : va_P D vwCl (nb_w ad ca M N) H) (hS : va_S (fun q : Nat => s.heap.size ≤ q) s.heap H locs) (hl : lv_has ls 4 [(0, .ref b), (1, .ref (ad 0)), (2, .ref (ad 52)), (3, .int i)]) (kk : la_G p l e s m below meth c b D ad ca ls) : W p l e room_1 s m #[Value.ref b] below meth c H locs 600000 7302250 (lw_Z below #[Value.ref b] s) (F0 m 1242 ls []) := by
  obtain ⟨⟨hx, hb, hr, hml, hown, hts, hX, hbl, hlocks, hgv⟩, had, hK, hZ, ht⟩ := A
  obtain ⟨h1, h2, h3, h4, h5⟩ := hI
  obtain ⟨v, M1, N1, e1, e2, R1⟩ := s_cares R (xs (i + 1).toNatClampNeg)
  refine lv_aload_n hx hb dL_law_1242 rfl (lv_at hl 1 rfl) ?_
  refine la_ld (j := 1) hx hb hX hbl hS hl h1 (by decide) dL_law_1243 dL_law_1244 dL_law_1245 dL_law_1246 dL_law_1247 ?_
  refine la_callV (n := 1) (As := [.int (xs (i + 1).toNatClampNeg)]) (rest := []) hx hb hml hown ht hK hZ hP hS (k_X6_cares had M N _ e1) gL_law_X6_cares rfl (by decide +kernel) ⟨(Nat.le_of_ble_eq_true rfl), (Nat.le_of_ble_eq_true rfl)⟩ nb_a0 rfl rfl rfl hl.1 rfl (Nat.le_of_ble_eq_true rfl) dL_law_1248 (fun H locs hP hS => ?_)
  refine lv_aload_n hx hb dL_law_1251 rfl (lv_at hl 2 rfl) ?_
  refine la_ld (j := 1) hx hb hX hbl hS hl h1 (by decide) dL_law_1252 dL_law_1253 dL_law_1254 dL_law_1255 dL_law_1256 ?_
  refine la_callV (n := 1) (As := [.int (xs (i + 1).toNatClampNeg)]) (rest := [.int v]) hx hb hml hown ht hK hZ hP hS (k_X7_cares had N M1 _ e2) gL_law_X7_cares rfl (by decide +kernel) ⟨(Nat.le_of_ble_eq_true rfl), (Nat.le_of_ble_eq_true rfl)⟩ nb_a52 rfl rfl rfl hl.1 rfl (Nat.le_of_ble_eq_true rfl) dL_law_1257 (fun H locs hP hS => ?_)
  exact lv_icmp_eq (tgt := 1396) hx hb dL_law_1260 (by decide) (fun _ => kk M1 N1 H locs R1 hP hS) (fun q => absurd rfl q)
set_option maxRecDepth 20000 in
theorem la_c31 {p : Program} {l : Launch} {e : Env} {s : State} {m : MethodId} {below : List Frame} {meth : Method} {c : Code} {b L : Nat} {xs : Nat → Int32} {D : va_G} {ad : Nat → Nat} {ca : Nat → ClassId} {i : Int32} {M N : nb_M} {H : Heap} {locs : List Loc} {ls : Array Slot} (A : la_A p s m meth c b L xs D ad ca) (R : hs_Rel M N) (hI : la_I i L) (hP : va_P D vwCl (nb_w ad ca M N) H) (hS : va_S (fun q : Nat => s.heap.size ≤ q) s.heap H locs) (hl : lv_has ls 4 [(0, .ref b), (1, .ref (ad 0)), (2, .ref (ad 52)), (3, .int i)]) (kk : la_G p l e s m below meth c b D ad ca ls) : W p l e room_1 s m #[Value.ref b] below meth c H locs 600000 7302250 (lw_Z below #[Value.ref b] s) (F0 m 1265 ls []) := by
  obtain ⟨⟨hx, hb, hr, hml, hown, hts, hX, hbl, hlocks, hgv⟩, had, hK, hZ, ht⟩ := A
  obtain ⟨h1, h2, h3, h4, h5⟩ := hI
  obtain ⟨v, M1, N1, e1, e2, R1⟩ := s_judge R (xs (i + 1).toNatClampNeg)
  refine lv_aload_n hx hb dL_law_1265 rfl (lv_at hl 1 rfl) ?_
  refine la_ld (j := 1) hx hb hX hbl hS hl h1 (by decide) dL_law_1266 dL_law_1267 dL_law_1268 dL_law_1269 dL_law_1270 ?_
  refine la_callV (n := 1) (As := [.int (xs (i + 1).toNatClampNeg)]) (rest := []) hx hb hml hown ht hK hZ hP hS (k_X6_judge had M N _ e1) gL_law_X6_judge rfl (by decide +kernel) ⟨(Nat.le_of_ble_eq_true rfl), (Nat.le_of_ble_eq_true rfl)⟩ nb_a0 rfl rfl rfl hl.1 rfl (Nat.le_of_ble_eq_true rfl) dL_law_1271 (fun H locs hP hS => ?_)
  refine lv_aload_n hx hb dL_law_1274 rfl (lv_at hl 2 rfl) ?_
  refine la_ld (j := 1) hx hb hX hbl hS hl h1 (by decide) dL_law_1275 dL_law_1276 dL_law_1277 dL_law_1278 dL_law_1279 ?_
  refine la_callV (n := 1) (As := [.int (xs (i + 1).toNatClampNeg)]) (rest := [.int v]) hx hb hml hown ht hK hZ hP hS (k_X7_judge had N M1 _ e2) gL_law_X7_judge rfl (by decide +kernel) ⟨(Nat.le_of_ble_eq_true rfl), (Nat.le_of_ble_eq_true rfl)⟩ nb_a52 rfl rfl rfl hl.1 rfl (Nat.le_of_ble_eq_true rfl) dL_law_1280 (fun H locs hP hS => ?_)
  exact lv_icmp_eq (tgt := 1396) hx hb dL_law_1283 (by decide) (fun _ => kk M1 N1 H locs R1 hP hS) (fun q => absurd rfl q)
set_option maxRecDepth 20000 in
theorem la_c32 {p : Program} {l : Launch} {e : Env} {s : State} {m : MethodId} {below : List Frame} {meth : Method} {c : Code} {b L : Nat} {xs : Nat → Int32} {D : va_G} {ad : Nat → Nat} {ca : Nat → ClassId} {i : Int32} {M N : nb_M} {H : Heap} {locs : List Loc} {ls : Array Slot} (A : la_A p s m meth c b L xs D ad ca) (R : hs_Rel M N) (hI : la_I i L) (hP : va_P D vwCl (nb_w ad ca M N) H) (hS : va_S (fun q : Nat => s.heap.size ≤ q) s.heap H locs) (hl : lv_has ls 4 [(0, .ref b), (1, .ref (ad 0)), (2, .ref (ad 52)), (3, .int i)]) (kk : la_G p l e s m below meth c b D ad ca ls) : W p l e room_1 s m #[Value.ref b] below meth c H locs 600000 7302250 (lw_Z below #[Value.ref b] s) (F0 m 1288 ls []) := by
  obtain ⟨⟨hx, hb, hr, hml, hown, hts, hX, hbl, hlocks, hgv⟩, had, hK, hZ, ht⟩ := A
  obtain ⟨h1, h2, h3, h4, h5⟩ := hI
  obtain ⟨v, M1, N1, e1, e2, R1⟩ := s_image R
  refine lv_aload_n hx hb dL_law_1288 rfl (lv_at hl 1 rfl) ?_
  refine la_callV (n := 0) (As := []) (rest := []) hx hb hml hown ht hK hZ hP hS (k_X6_image had M N  e1) gL_law_X6_image rfl (by decide +kernel) ⟨(Nat.le_of_ble_eq_true rfl), (Nat.le_of_ble_eq_true rfl)⟩ nb_a0 rfl rfl rfl hl.1 rfl (Nat.le_of_ble_eq_true rfl) dL_law_1289 (fun H locs hP hS => ?_)
  refine lv_aload_n hx hb dL_law_1292 rfl (lv_at hl 2 rfl) ?_
  refine la_callV (n := 0) (As := []) (rest := [.int v]) hx hb hml hown ht hK hZ hP hS (k_X7_image had N M1  e2) gL_law_X7_image rfl (by decide +kernel) ⟨(Nat.le_of_ble_eq_true rfl), (Nat.le_of_ble_eq_true rfl)⟩ nb_a52 rfl rfl rfl hl.1 rfl (Nat.le_of_ble_eq_true rfl) dL_law_1293 (fun H locs hP hS => ?_)
  exact lv_icmp_eq (tgt := 1396) hx hb dL_law_1296 (by decide) (fun _ => kk M1 N1 H locs R1 hP hS) (fun q => absurd rfl q)
set_option maxRecDepth 20000 in
theorem la_c33 {p : Program} {l : Launch} {e : Env} {s : State} {m : MethodId} {below : List Frame} {meth : Method} {c : Code} {b L : Nat} {xs : Nat → Int32} {D : va_G} {ad : Nat → Nat} {ca : Nat → ClassId} {i : Int32} {M N : nb_M} {H : Heap} {locs : List Loc} {ls : Array Slot} (A : la_A p s m meth c b L xs D ad ca) (R : hs_Rel M N) (hI : la_I i L) (hP : va_P D vwCl (nb_w ad ca M N) H) (hS : va_S (fun q : Nat => s.heap.size ≤ q) s.heap H locs) (hl : lv_has ls 4 [(0, .ref b), (1, .ref (ad 0)), (2, .ref (ad 52)), (3, .int i)]) (kk : la_G p l e s m below meth c b D ad ca ls) : W p l e room_1 s m #[Value.ref b] below meth c H locs 600000 7302250 (lw_Z below #[Value.ref b] s) (F0 m 1301 ls []) := by
  obtain ⟨⟨hx, hb, hr, hml, hown, hts, hX, hbl, hlocks, hgv⟩, had, hK, hZ, ht⟩ := A
  obtain ⟨h1, h2, h3, h4, h5⟩ := hI
  obtain ⟨v, M1, N1, e1, e2, R1⟩ := s_restore R
  refine lv_aload_n hx hb dL_law_1301 rfl (lv_at hl 1 rfl) ?_
  refine la_callV (n := 0) (As := []) (rest := []) hx hb hml hown ht hK hZ hP hS (k_X6_restore had M N  e1) gL_law_X6_restore rfl (by decide +kernel) ⟨(Nat.le_of_ble_eq_true rfl), (Nat.le_of_ble_eq_true rfl)⟩ nb_a0 rfl rfl rfl hl.1 rfl (Nat.le_of_ble_eq_true rfl) dL_law_1302 (fun H locs hP hS => ?_)
  refine lv_aload_n hx hb dL_law_1305 rfl (lv_at hl 2 rfl) ?_
  refine la_callV (n := 0) (As := []) (rest := [.int v]) hx hb hml hown ht hK hZ hP hS (k_X7_restore had N M1  e2) gL_law_X7_restore rfl (by decide +kernel) ⟨(Nat.le_of_ble_eq_true rfl), (Nat.le_of_ble_eq_true rfl)⟩ nb_a52 rfl rfl rfl hl.1 rfl (Nat.le_of_ble_eq_true rfl) dL_law_1306 (fun H locs hP hS => ?_)
  exact lv_icmp_eq (tgt := 1396) hx hb dL_law_1309 (by decide) (fun _ => kk M1 N1 H locs R1 hP hS) (fun q => absurd rfl q)
set_option maxRecDepth 20000 in
theorem la_c34 {p : Program} {l : Launch} {e : Env} {s : State} {m : MethodId} {below : List Frame} {meth : Method} {c : Code} {b L : Nat} {xs : Nat → Int32} {D : va_G} {ad : Nat → Nat} {ca : Nat → ClassId} {i : Int32} {M N : nb_M} {H : Heap} {locs : List Loc} {ls : Array Slot} (A : la_A p s m meth c b L xs D ad ca) (R : hs_Rel M N) (hI : la_I i L) (hP : va_P D vwCl (nb_w ad ca M N) H) (hS : va_S (fun q : Nat => s.heap.size ≤ q) s.heap H locs) (hl : lv_has ls 4 [(0, .ref b), (1, .ref (ad 0)), (2, .ref (ad 52)), (3, .int i)]) (kk : la_G p l e s m below meth c b D ad ca ls) : W p l e room_1 s m #[Value.ref b] below meth c H locs 600000 7302250 (lw_Z below #[Value.ref b] s) (F0 m 1314 ls []) := by
  obtain ⟨⟨hx, hb, hr, hml, hown, hts, hX, hbl, hlocks, hgv⟩, had, hK, hZ, ht⟩ := A
  obtain ⟨h1, h2, h3, h4, h5⟩ := hI
  obtain ⟨v, M1, N1, e1, e2, R1⟩ := s_tell R (xs (i + 1).toNatClampNeg)
  refine lv_aload_n hx hb dL_law_1314 rfl (lv_at hl 1 rfl) ?_
  refine la_ld (j := 1) hx hb hX hbl hS hl h1 (by decide) dL_law_1315 dL_law_1316 dL_law_1317 dL_law_1318 dL_law_1319 ?_
  refine la_callV (n := 1) (As := [.int (xs (i + 1).toNatClampNeg)]) (rest := []) hx hb hml hown ht hK hZ hP hS (k_X6_tell had M N _ e1) gL_law_X6_tell rfl (by decide +kernel) ⟨(Nat.le_of_ble_eq_true rfl), (Nat.le_of_ble_eq_true rfl)⟩ nb_a0 rfl rfl rfl hl.1 rfl (Nat.le_of_ble_eq_true rfl) dL_law_1320 (fun H locs hP hS => ?_)
  refine lv_aload_n hx hb dL_law_1323 rfl (lv_at hl 2 rfl) ?_
  refine la_ld (j := 1) hx hb hX hbl hS hl h1 (by decide) dL_law_1324 dL_law_1325 dL_law_1326 dL_law_1327 dL_law_1328 ?_
  refine la_callV (n := 1) (As := [.int (xs (i + 1).toNatClampNeg)]) (rest := [.int v]) hx hb hml hown ht hK hZ hP hS (k_X7_tell had N M1 _ e2) gL_law_X7_tell rfl (by decide +kernel) ⟨(Nat.le_of_ble_eq_true rfl), (Nat.le_of_ble_eq_true rfl)⟩ nb_a52 rfl rfl rfl hl.1 rfl (Nat.le_of_ble_eq_true rfl) dL_law_1329 (fun H locs hP hS => ?_)
  exact lv_icmp_eq (tgt := 1396) hx hb dL_law_1332 (by decide) (fun _ => kk M1 N1 H locs R1 hP hS) (fun q => absurd rfl q)
set_option maxRecDepth 20000 in
theorem la_c35 {p : Program} {l : Launch} {e : Env} {s : State} {m : MethodId} {below : List Frame} {meth : Method} {c : Code} {b L : Nat} {xs : Nat → Int32} {D : va_G} {ad : Nat → Nat} {ca : Nat → ClassId} {i : Int32} {M N : nb_M} {H : Heap} {locs : List Loc} {ls : Array Slot} (A : la_A p s m meth c b L xs D ad ca) (R : hs_Rel M N) (hI : la_I i L) (hP : va_P D vwCl (nb_w ad ca M N) H) (hS : va_S (fun q : Nat => s.heap.size ≤ q) s.heap H locs) (hl : lv_has ls 4 [(0, .ref b), (1, .ref (ad 0)), (2, .ref (ad 52)), (3, .int i)]) (kk : la_G p l e s m below meth c b D ad ca ls) : W p l e room_1 s m #[Value.ref b] below meth c H locs 600000 7302250 (lw_Z below #[Value.ref b] s) (F0 m 1337 ls []) := by
  obtain ⟨⟨hx, hb, hr, hml, hown, hts, hX, hbl, hlocks, hgv⟩, had, hK, hZ, ht⟩ := A
  obtain ⟨h1, h2, h3, h4, h5⟩ := hI
  obtain ⟨v, M1, N1, e1, e2, R1⟩ := s_check R
  refine lv_aload_n hx hb dL_law_1337 rfl (lv_at hl 1 rfl) ?_
  refine la_callV (n := 0) (As := []) (rest := []) hx hb hml hown ht hK hZ hP hS (k_X6_check had M N  e1) gL_law_X6_check rfl (by decide +kernel) ⟨(Nat.le_of_ble_eq_true rfl), (Nat.le_of_ble_eq_true rfl)⟩ nb_a0 rfl rfl rfl hl.1 rfl (Nat.le_of_ble_eq_true rfl) dL_law_1338 (fun H locs hP hS => ?_)
  refine lv_aload_n hx hb dL_law_1341 rfl (lv_at hl 2 rfl) ?_
  refine la_callV (n := 0) (As := []) (rest := [.int v]) hx hb hml hown ht hK hZ hP hS (k_X7_check had N M1  e2) gL_law_X7_check rfl (by decide +kernel) ⟨(Nat.le_of_ble_eq_true rfl), (Nat.le_of_ble_eq_true rfl)⟩ nb_a52 rfl rfl rfl hl.1 rfl (Nat.le_of_ble_eq_true rfl) dL_law_1342 (fun H locs hP hS => ?_)
  exact lv_icmp_eq (tgt := 1396) hx hb dL_law_1345 (by decide) (fun _ => kk M1 N1 H locs R1 hP hS) (fun q => absurd rfl q)
set_option maxRecDepth 20000 in
theorem la_c36 {p : Program} {l : Launch} {e : Env} {s : State} {m : MethodId} {below : List Frame} {meth : Method} {c : Code} {b L : Nat} {xs : Nat → Int32} {D : va_G} {ad : Nat → Nat} {ca : Nat → ClassId} {i : Int32} {M N : nb_M} {H : Heap} {locs : List Loc} {ls : Array Slot} (A : la_A p s m meth c b L xs D ad ca) (R : hs_Rel M N) (hI : la_I i L) (hP : va_P D vwCl (nb_w ad ca M N) H) (hS : va_S (fun q : Nat => s.heap.size ≤ q) s.heap H locs) (hl : lv_has ls 4 [(0, .ref b), (1, .ref (ad 0)), (2, .ref (ad 52)), (3, .int i)]) (kk : la_G p l e s m below meth c b D ad ca ls) : W p l e room_1 s m #[Value.ref b] below meth c H locs 600000 7302250 (lw_Z below #[Value.ref b] s) (F0 m 1350 ls []) := by
  obtain ⟨⟨hx, hb, hr, hml, hown, hts, hX, hbl, hlocks, hgv⟩, had, hK, hZ, ht⟩ := A
  obtain ⟨h1, h2, h3, h4, h5⟩ := hI
  obtain ⟨v, M1, N1, e1, e2, R1⟩ := s_count R (xs (i + 1).toNatClampNeg)
  refine lv_aload_n hx hb dL_law_1350 rfl (lv_at hl 1 rfl) ?_
  refine la_ld (j := 1) hx hb hX hbl hS hl h1 (by decide) dL_law_1351 dL_law_1352 dL_law_1353 dL_law_1354 dL_law_1355 ?_
  refine la_callV (n := 1) (As := [.int (xs (i + 1).toNatClampNeg)]) (rest := []) hx hb hml hown ht hK hZ hP hS (k_X6_count had M N _ e1) gL_law_X6_count rfl (by decide +kernel) ⟨(Nat.le_of_ble_eq_true rfl), (Nat.le_of_ble_eq_true rfl)⟩ nb_a0 rfl rfl rfl hl.1 rfl (Nat.le_of_ble_eq_true rfl) dL_law_1356 (fun H locs hP hS => ?_)
  refine lv_aload_n hx hb dL_law_1359 rfl (lv_at hl 2 rfl) ?_
  refine la_ld (j := 1) hx hb hX hbl hS hl h1 (by decide) dL_law_1360 dL_law_1361 dL_law_1362 dL_law_1363 dL_law_1364 ?_
  refine la_callV (n := 1) (As := [.int (xs (i + 1).toNatClampNeg)]) (rest := [.int v]) hx hb hml hown ht hK hZ hP hS (k_X7_count had N M1 _ e2) gL_law_X7_count rfl (by decide +kernel) ⟨(Nat.le_of_ble_eq_true rfl), (Nat.le_of_ble_eq_true rfl)⟩ nb_a52 rfl rfl rfl hl.1 rfl (Nat.le_of_ble_eq_true rfl) dL_law_1365 (fun H locs hP hS => ?_)
  exact lv_icmp_eq (tgt := 1396) hx hb dL_law_1368 (by decide) (fun _ => kk M1 N1 H locs R1 hP hS) (fun q => absurd rfl q)
set_option maxRecDepth 20000 in
theorem la_c37 {p : Program} {l : Launch} {e : Env} {s : State} {m : MethodId} {below : List Frame} {meth : Method} {c : Code} {b L : Nat} {xs : Nat → Int32} {D : va_G} {ad : Nat → Nat} {ca : Nat → ClassId} {i : Int32} {M N : nb_M} {H : Heap} {locs : List Loc} {ls : Array Slot} (A : la_A p s m meth c b L xs D ad ca) (R : hs_Rel M N) (hI : la_I i L) (hP : va_P D vwCl (nb_w ad ca M N) H) (hS : va_S (fun q : Nat => s.heap.size ≤ q) s.heap H locs) (hl : lv_has ls 4 [(0, .ref b), (1, .ref (ad 0)), (2, .ref (ad 52)), (3, .int i)]) (kk : la_G p l e s m below meth c b D ad ca ls) : W p l e room_1 s m #[Value.ref b] below meth c H locs 600000 7302250 (lw_Z below #[Value.ref b] s) (F0 m 1373 ls []) := by
  obtain ⟨⟨hx, hb, hr, hml, hown, hts, hX, hbl, hlocks, hgv⟩, had, hK, hZ, ht⟩ := A
  obtain ⟨h1, h2, h3, h4, h5⟩ := hI
  obtain ⟨v, M1, N1, e1, e2, R1⟩ := s_told R (xs (i + 1).toNatClampNeg)
  refine lv_aload_n hx hb dL_law_1373 rfl (lv_at hl 1 rfl) ?_
  refine la_ld (j := 1) hx hb hX hbl hS hl h1 (by decide) dL_law_1374 dL_law_1375 dL_law_1376 dL_law_1377 dL_law_1378 ?_
  refine la_callV (n := 1) (As := [.int (xs (i + 1).toNatClampNeg)]) (rest := []) hx hb hml hown ht hK hZ hP hS (k_X6_told had M N _ e1) gL_law_X6_told rfl (by decide +kernel) ⟨(Nat.le_of_ble_eq_true rfl), (Nat.le_of_ble_eq_true rfl)⟩ nb_a0 rfl rfl rfl hl.1 rfl (Nat.le_of_ble_eq_true rfl) dL_law_1379 (fun H locs hP hS => ?_)
  refine lv_aload_n hx hb dL_law_1382 rfl (lv_at hl 2 rfl) ?_
  refine la_ld (j := 1) hx hb hX hbl hS hl h1 (by decide) dL_law_1383 dL_law_1384 dL_law_1385 dL_law_1386 dL_law_1387 ?_
  refine la_callV (n := 1) (As := [.int (xs (i + 1).toNatClampNeg)]) (rest := [.int v]) hx hb hml hown ht hK hZ hP hS (k_X7_told had N M1 _ e2) gL_law_X7_told rfl (by decide +kernel) ⟨(Nat.le_of_ble_eq_true rfl), (Nat.le_of_ble_eq_true rfl)⟩ nb_a52 rfl rfl rfl hl.1 rfl (Nat.le_of_ble_eq_true rfl) dL_law_1388 (fun H locs hP hS => ?_)
  exact lv_icmp_eq (tgt := 1396) hx hb dL_law_1391 (by decide) (fun _ => kk M1 N1 H locs R1 hP hS) (fun q => absurd rfl q)
