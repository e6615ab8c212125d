set_option maxRecDepth 100000 in
theorem v_Law_law_1316 {Γ : Gt} {Z : Zt} (X : Cx Γ Z code R_law 4 (some .boolean) room_1) (hN : 166 ≤ Z.2.2.2.1) {b : Nat} {xs : Nat → Int32} {L : Nat} (hL : Lx Γ Z b L xs) (v3 : Int)  (K10 : Int → Mm → Option (Unit)) (D : Mm) (hK10 : ∀ (v3 : Int) (D : Mm), Zv Γ Z 4 (QfL Γ b) (K10 v3 D) D 18 [(0, Value.ref b), (1, zr Z 1), (2, zr Z 144), (3, zi v3)] []) : Zv Γ Z 4 (QfL Γ b) (f_Law_law_1316 xs L v3 K10 D) D 1316 [(0, Value.ref b), (1, zr Z 1), (2, zr Z 144), (3, zi v3)] [] := by
  unfold f_Law_law_1316
  refine zv_iinc X (lv2 := [(3, zi (v3 + 7)), (0, Value.ref b), (1, zr Z 1), (2, zr Z 144)]) d_Law_law_1316 3 rfl (by decide) rfl ?_
  refine zv_goto X (tgt := 18) d_Law_law_1319 (by decide) ?_
  refine zv_sub X [1, 2, 3, 0] rfl ?_
  exact hK10 (v3 + 7) D
set_option maxRecDepth 100000 in
theorem v_Law_law_1293 {Γ : Gt} {Z : Zt} (X : Cx Γ Z code R_law 4 (some .boolean) room_1) (hN : 166 ≤ Z.2.2.2.1) {b : Nat} {xs : Nat → Int32} {L : Nat} (hL : Lx Γ Z b L xs) (v3 : Int)  (K10 : Int → Mm → Option (Unit)) (D : Mm) (hK10 : ∀ (v3 : Int) (D : Mm), Zv Γ Z 4 (QfL Γ b) (K10 v3 D) D 18 [(0, Value.ref b), (1, zr Z 1), (2, zr Z 144), (3, zi v3)] []) : Zv Γ Z 4 (QfL Γ b) (f_Law_law_1293 xs L v3 K10 D) D 1293 [(0, Value.ref b), (1, zr Z 1), (2, zr Z 144), (3, zi v3)] [] := by
  unfold f_Law_law_1293
  refine zv_aload_n X d_Law_law_1293 rfl 1 rfl ?_
  refine zv_saload_n X d_Law_law_1294 rfl 0 rfl ?_
  refine zv_iload_n X d_Law_law_1295 rfl 3 rfl ?_
  refine zv_iconst X d_Law_law_1296 ?_
  refine zv_iadd X d_Law_law_1297 ?_
  refine zv_sld X hL d_Law_law_1298 (fun ha1298 hb1298 => ?_)
  refine zv_cVP1 X (av := [zi (xz xs (v3 + 1))]) (st := []) (ci := 6) (c_Main_size Γ.2.1 X.2.2.2.2.2.2.2.1 (Int.le_trans (by decide) hN) (xz xs (v3 + 1)) D) mk_Law_141 rfl (za_1 (Int.le_trans (by decide) hN)) ⟨rfl, rfl, Nat.le_of_ble_eq_true rfl, Nat.le_of_ble_eq_true rfl⟩ rfl (Nat.le_of_ble_eq_true rfl) d_Law_law_1299 (fun r1 hr1 => ?_)
  refine zv_aload_n X d_Law_law_1302 rfl 2 rfl ?_
  refine zv_saload_n X d_Law_law_1303 rfl 0 rfl ?_
  refine zv_iload_n X d_Law_law_1304 rfl 3 rfl ?_
  refine zv_iconst X d_Law_law_1305 ?_
  refine zv_iadd X d_Law_law_1306 ?_
  refine zv_sld X hL d_Law_law_1307 (fun ha1307 hb1307 => ?_)
  refine zv_cVP1 X (av := [zi (xz xs (v3 + 1))]) (st := [zi r1]) (ci := 7) (c_Model_size Γ.2.1 X.2.2.2.2.2.2.2.1 hN (xz xs (v3 + 1)) D) mk_Law_144 rfl (za_144 hN) ⟨rfl, rfl, Nat.le_of_ble_eq_true rfl, Nat.le_of_ble_eq_true rfl⟩ rfl (Nat.le_of_ble_eq_true rfl) d_Law_law_1308 (fun r2 hr2 => ?_)
  refine zv_icmp_eq X (tgt := 1316) d_Law_law_1311 (by decide) (fun h1311 => ?_) (fun h1311 => ?_)
  · exact v_Law_law_1316 X hN hL v3 K10 D hK10
  · refine zv_iconst X d_Law_law_1314 ?_
    exact zv_none
set_option maxRecDepth 100000 in
theorem v_Law_law_1280 {Γ : Gt} {Z : Zt} (X : Cx Γ Z code R_law 4 (some .boolean) room_1) (hN : 166 ≤ Z.2.2.2.1) {b : Nat} {xs : Nat → Int32} {L : Nat} (hL : Lx Γ Z b L xs) (v3 : Int)  (K10 : Int → Mm → Option (Unit)) (D : Mm) (hK10 : ∀ (v3 : Int) (D : Mm), Zv Γ Z 4 (QfL Γ b) (K10 v3 D) D 18 [(0, Value.ref b), (1, zr Z 1), (2, zr Z 144), (3, zi v3)] []) : Zv Γ Z 4 (QfL Γ b) (f_Law_law_1280 xs L v3 K10 D) D 1280 [(0, Value.ref b), (1, zr Z 1), (2, zr Z 144), (3, zi v3)] [] := by
  unfold f_Law_law_1280
  refine zv_aload_n X d_Law_law_1280 rfl 1 rfl ?_
  refine zv_cVM1 X (av := []) (st := []) (ci := 6) (c_Main_back Γ.2.1 X.2.2.2.2.2.2.2.1 (Int.le_trans (by decide) hN) D) mk_Law_137 rfl (za_1 (Int.le_trans (by decide) hN)) ⟨rfl, rfl, Nat.le_of_ble_eq_true rfl, Nat.le_of_ble_eq_true rfl⟩ rfl (Nat.le_of_ble_eq_true rfl) d_Law_law_1281 (fun r1 D2 hr1 => ?_)
  refine zv_aload_n X d_Law_law_1284 rfl 2 rfl ?_
  refine zv_cVM1 X (av := []) (st := [zi r1]) (ci := 7) (c_Model_back Γ.2.1 X.2.2.2.2.2.2.2.1 hN D2) mk_Law_140 rfl (za_144 hN) ⟨rfl, rfl, Nat.le_of_ble_eq_true rfl, Nat.le_of_ble_eq_true rfl⟩ rfl (Nat.le_of_ble_eq_true rfl) d_Law_law_1285 (fun r3 D4 hr3 => ?_)
  refine zv_icmp_eq X (tgt := 1316) d_Law_law_1288 (by decide) (fun h1288 => ?_) (fun h1288 => ?_)
  · exact v_Law_law_1316 X hN hL v3 K10 D4 hK10
  · refine zv_iconst X d_Law_law_1291 ?_
    exact zv_none
set_option maxRecDepth 100000 in
theorem v_Law_law_1267 {Γ : Gt} {Z : Zt} (X : Cx Γ Z code R_law 4 (some .boolean) room_1) (hN : 166 ≤ Z.2.2.2.1) {b : Nat} {xs : Nat → Int32} {L : Nat} (hL : Lx Γ Z b L xs) (v3 : Int)  (K10 : Int → Mm → Option (Unit)) (D : Mm) (hK10 : ∀ (v3 : Int) (D : Mm), Zv Γ Z 4 (QfL Γ b) (K10 v3 D) D 18 [(0, Value.ref b), (1, zr Z 1), (2, zr Z 144), (3, zi v3)] []) : Zv Γ Z 4 (QfL Γ b) (f_Law_law_1267 xs L v3 K10 D) D 1267 [(0, Value.ref b), (1, zr Z 1), (2, zr Z 144), (3, zi v3)] [] := by
  unfold f_Law_law_1267
  refine zv_aload_n X d_Law_law_1267 rfl 1 rfl ?_
  refine zv_cVM1 X (av := []) (st := []) (ci := 6) (c_Main_keep Γ.2.1 X.2.2.2.2.2.2.2.1 (Int.le_trans (by decide) hN) D) mk_Law_133 rfl (za_1 (Int.le_trans (by decide) hN)) ⟨rfl, rfl, Nat.le_of_ble_eq_true rfl, Nat.le_of_ble_eq_true rfl⟩ rfl (Nat.le_of_ble_eq_true rfl) d_Law_law_1268 (fun r1 D2 hr1 => ?_)
  refine zv_aload_n X d_Law_law_1271 rfl 2 rfl ?_
  refine zv_cVM1 X (av := []) (st := [zi r1]) (ci := 7) (c_Model_keep Γ.2.1 X.2.2.2.2.2.2.2.1 hN D2) mk_Law_136 rfl (za_144 hN) ⟨rfl, rfl, Nat.le_of_ble_eq_true rfl, Nat.le_of_ble_eq_true rfl⟩ rfl (Nat.le_of_ble_eq_true rfl) d_Law_law_1272 (fun r3 D4 hr3 => ?_)
  refine zv_icmp_eq X (tgt := 1316) d_Law_law_1275 (by decide) (fun h1275 => ?_) (fun h1275 => ?_)
  · exact v_Law_law_1316 X hN hL v3 K10 D4 hK10
  · refine zv_iconst X d_Law_law_1278 ?_
    exact zv_none
set_option maxRecDepth 100000 in
theorem v_Law_law_1254 {Γ : Gt} {Z : Zt} (X : Cx Γ Z code R_law 4 (some .boolean) room_1) (hN : 166 ≤ Z.2.2.2.1) {b : Nat} {xs : Nat → Int32} {L : Nat} (hL : Lx Γ Z b L xs) (v3 : Int)  (K10 : Int → Mm → Option (Unit)) (D : Mm) (hK10 : ∀ (v3 : Int) (D : Mm), Zv Γ Z 4 (QfL Γ b) (K10 v3 D) D 18 [(0, Value.ref b), (1, zr Z 1), (2, zr Z 144), (3, zi v3)] []) : Zv Γ Z 4 (QfL Γ b) (f_Law_law_1254 xs L v3 K10 D) D 1254 [(0, Value.ref b), (1, zr Z 1), (2, zr Z 144), (3, zi v3)] [] := by
  unfold f_Law_law_1254
  refine zv_aload_n X d_Law_law_1254 rfl 1 rfl ?_
  refine zv_cVP1 X (av := []) (st := []) (ci := 6) (c_Main_next Γ.2.1 X.2.2.2.2.2.2.2.1 (Int.le_trans (by decide) hN) D) mk_Law_129 rfl (za_1 (Int.le_trans (by decide) hN)) ⟨rfl, rfl, Nat.le_of_ble_eq_true rfl, Nat.le_of_ble_eq_true rfl⟩ rfl (Nat.le_of_ble_eq_true rfl) d_Law_law_1255 (fun r1 hr1 => ?_)
  refine zv_aload_n X d_Law_law_1258 rfl 2 rfl ?_
  refine zv_cVP1 X (av := []) (st := [zi r1]) (ci := 7) (c_Model_next Γ.2.1 X.2.2.2.2.2.2.2.1 hN D) mk_Law_132 rfl (za_144 hN) ⟨rfl, rfl, Nat.le_of_ble_eq_true rfl, Nat.le_of_ble_eq_true rfl⟩ rfl (Nat.le_of_ble_eq_true rfl) d_Law_law_1259 (fun r2 hr2 => ?_)
  refine zv_icmp_eq X (tgt := 1316) d_Law_law_1262 (by decide) (fun h1262 => ?_) (fun h1262 => ?_)
  · exact v_Law_law_1316 X hN hL v3 K10 D hK10
  · refine zv_iconst X d_Law_law_1265 ?_
    exact zv_none
set_option maxRecDepth 100000 in
theorem v_Law_law_1221 {Γ : Gt} {Z : Zt} (X : Cx Γ Z code R_law 4 (some .boolean) room_1) (hN : 166 ≤ Z.2.2.2.1) {b : Nat} {xs : Nat → Int32} {L : Nat} (hL : Lx Γ Z b L xs) (v3 : Int)  (K10 : Int → Mm → Option (Unit)) (D : Mm) (hK10 : ∀ (v3 : Int) (D : Mm), Zv Γ Z 4 (QfL Γ b) (K10 v3 D) D 18 [(0, Value.ref b), (1, zr Z 1), (2, zr Z 144), (3, zi v3)] []) : Zv Γ Z 4 (QfL Γ b) (f_Law_law_1221 xs L v3 K10 D) D 1221 [(0, Value.ref b), (1, zr Z 1), (2, zr Z 144), (3, zi v3)] [] := by
  unfold f_Law_law_1221
  refine zv_aload_n X d_Law_law_1221 rfl 1 rfl ?_
  refine zv_saload_n X d_Law_law_1222 rfl 0 rfl ?_
  refine zv_iload_n X d_Law_law_1223 rfl 3 rfl ?_
  refine zv_iconst X d_Law_law_1224 ?_
  refine zv_iadd X d_Law_law_1225 ?_
  refine zv_sld X hL d_Law_law_1226 (fun ha1226 hb1226 => ?_)
  refine zv_saload_n X d_Law_law_1227 rfl 0 rfl ?_
  refine zv_iload_n X d_Law_law_1228 rfl 3 rfl ?_
  refine zv_iconst X d_Law_law_1229 ?_
  refine zv_iadd X d_Law_law_1230 ?_
  refine zv_sld X hL d_Law_law_1231 (fun ha1231 hb1231 => ?_)
  refine zv_cVM1 X (av := [zi (xz xs (v3 + 1)), zi (xz xs (v3 + 2))]) (st := []) (ci := 6) (c_Main_eaten Γ.2.1 X.2.2.2.2.2.2.2.1 (Int.le_trans (by decide) hN) (xz xs (v3 + 1)) (xz xs (v3 + 2)) D) mk_Law_125 rfl (za_1 (Int.le_trans (by decide) hN)) ⟨rfl, rfl, Nat.le_of_ble_eq_true rfl, Nat.le_of_ble_eq_true rfl⟩ rfl (Nat.le_of_ble_eq_true rfl) d_Law_law_1232 (fun r1 D2 hr1 => ?_)
  refine zv_aload_n X d_Law_law_1235 rfl 2 rfl ?_
  refine zv_saload_n X d_Law_law_1236 rfl 0 rfl ?_
  refine zv_iload_n X d_Law_law_1237 rfl 3 rfl ?_
  refine zv_iconst X d_Law_law_1238 ?_
  refine zv_iadd X d_Law_law_1239 ?_
  refine zv_sld X hL d_Law_law_1240 (fun ha1240 hb1240 => ?_)
  refine zv_saload_n X d_Law_law_1241 rfl 0 rfl ?_
  refine zv_iload_n X d_Law_law_1242 rfl 3 rfl ?_
  refine zv_iconst X d_Law_law_1243 ?_
  refine zv_iadd X d_Law_law_1244 ?_
  refine zv_sld X hL d_Law_law_1245 (fun ha1245 hb1245 => ?_)
  refine zv_cVP1 X (av := [zi (xz xs (v3 + 1)), zi (xz xs (v3 + 2))]) (st := [zi r1]) (ci := 7) (c_Model_eaten Γ.2.1 X.2.2.2.2.2.2.2.1 hN (xz xs (v3 + 1)) (xz xs (v3 + 2)) D2) mk_Law_128 rfl (za_144 hN) ⟨rfl, rfl, Nat.le_of_ble_eq_true rfl, Nat.le_of_ble_eq_true rfl⟩ rfl (Nat.le_of_ble_eq_true rfl) d_Law_law_1246 (fun r3 hr3 => ?_)
  refine zv_icmp_eq X (tgt := 1316) d_Law_law_1249 (by decide) (fun h1249 => ?_) (fun h1249 => ?_)
  · exact v_Law_law_1316 X hN hL v3 K10 D2 hK10
  · refine zv_iconst X d_Law_law_1252 ?_
    exact zv_none
set_option maxRecDepth 100000 in
theorem v_Law_law_1198 {Γ : Gt} {Z : Zt} (X : Cx Γ Z code R_law 4 (some .boolean) room_1) (hN : 166 ≤ Z.2.2.2.1) {b : Nat} {xs : Nat → Int32} {L : Nat} (hL : Lx Γ Z b L xs) (v3 : Int)  (K10 : Int → Mm → Option (Unit)) (D : Mm) (hK10 : ∀ (v3 : Int) (D : Mm), Zv Γ Z 4 (QfL Γ b) (K10 v3 D) D 18 [(0, Value.ref b), (1, zr Z 1), (2, zr Z 144), (3, zi v3)] []) : Zv Γ Z 4 (QfL Γ b) (f_Law_law_1198 xs L v3 K10 D) D 1198 [(0, Value.ref b), (1, zr Z 1), (2, zr Z 144), (3, zi v3)] [] := by
  unfold f_Law_law_1198
  refine zv_aload_n X d_Law_law_1198 rfl 1 rfl ?_
  refine zv_saload_n X d_Law_law_1199 rfl 0 rfl ?_
  refine zv_iload_n X d_Law_law_1200 rfl 3 rfl ?_
  refine zv_iconst X d_Law_law_1201 ?_
  refine zv_iadd X d_Law_law_1202 ?_
  refine zv_sld X hL d_Law_law_1203 (fun ha1203 hb1203 => ?_)
  refine zv_cVM1 X (av := [zi (xz xs (v3 + 1))]) (st := []) (ci := 6) (c_Main_teeth Γ.2.1 X.2.2.2.2.2.2.2.1 (Int.le_trans (by decide) hN) (xz xs (v3 + 1)) D) mk_Law_121 rfl (za_1 (Int.le_trans (by decide) hN)) ⟨rfl, rfl, Nat.le_of_ble_eq_true rfl, Nat.le_of_ble_eq_true rfl⟩ rfl (Nat.le_of_ble_eq_true rfl) d_Law_law_1204 (fun r1 D2 hr1 => ?_)
  refine zv_aload_n X d_Law_law_1207 rfl 2 rfl ?_
  refine zv_saload_n X d_Law_law_1208 rfl 0 rfl ?_
  refine zv_iload_n X d_Law_law_1209 rfl 3 rfl ?_
  refine zv_iconst X d_Law_law_1210 ?_
  refine zv_iadd X d_Law_law_1211 ?_
  refine zv_sld X hL d_Law_law_1212 (fun ha1212 hb1212 => ?_)
  refine zv_cVM1 X (av := [zi (xz xs (v3 + 1))]) (st := [zi r1]) (ci := 7) (c_Model_teeth Γ.2.1 X.2.2.2.2.2.2.2.1 hN (xz xs (v3 + 1)) D2) mk_Law_124 rfl (za_144 hN) ⟨rfl, rfl, Nat.le_of_ble_eq_true rfl, Nat.le_of_ble_eq_true rfl⟩ rfl (Nat.le_of_ble_eq_true rfl) d_Law_law_1213 (fun r3 D4 hr3 => ?_)
  refine zv_icmp_eq X (tgt := 1316) d_Law_law_1216 (by decide) (fun h1216 => ?_) (fun h1216 => ?_)
  · exact v_Law_law_1316 X hN hL v3 K10 D4 hK10
  · refine zv_iconst X d_Law_law_1219 ?_
    exact zv_none
set_option maxRecDepth 100000 in
theorem v_Law_law_1165 {Γ : Gt} {Z : Zt} (X : Cx Γ Z code R_law 4 (some .boolean) room_1) (hN : 166 ≤ Z.2.2.2.1) {b : Nat} {xs : Nat → Int32} {L : Nat} (hL : Lx Γ Z b L xs) (v3 : Int)  (K10 : Int → Mm → Option (Unit)) (D : Mm) (hK10 : ∀ (v3 : Int) (D : Mm), Zv Γ Z 4 (QfL Γ b) (K10 v3 D) D 18 [(0, Value.ref b), (1, zr Z 1), (2, zr Z 144), (3, zi v3)] []) : Zv Γ Z 4 (QfL Γ b) (f_Law_law_1165 xs L v3 K10 D) D 1165 [(0, Value.ref b), (1, zr Z 1), (2, zr Z 144), (3, zi v3)] [] := by
  unfold f_Law_law_1165
  refine zv_aload_n X d_Law_law_1165 rfl 1 rfl ?_
  refine zv_saload_n X d_Law_law_1166 rfl 0 rfl ?_
  refine zv_iload_n X d_Law_law_1167 rfl 3 rfl ?_
  refine zv_iconst X d_Law_law_1168 ?_
  refine zv_iadd X d_Law_law_1169 ?_
  refine zv_sld X hL d_Law_law_1170 (fun ha1170 hb1170 => ?_)
  refine zv_saload_n X d_Law_law_1171 rfl 0 rfl ?_
  refine zv_iload_n X d_Law_law_1172 rfl 3 rfl ?_
  refine zv_iconst X d_Law_law_1173 ?_
  refine zv_iadd X d_Law_law_1174 ?_
  refine zv_sld X hL d_Law_law_1175 (fun ha1175 hb1175 => ?_)
  refine zv_cVP1 X (av := [zi (xz xs (v3 + 1)), zi (xz xs (v3 + 2))]) (st := []) (ci := 6) (c_Main_right Γ.2.1 X.2.2.2.2.2.2.2.1 (Int.le_trans (by decide) hN) (xz xs (v3 + 1)) (xz xs (v3 + 2)) D) mk_Law_117 rfl (za_1 (Int.le_trans (by decide) hN)) ⟨rfl, rfl, Nat.le_of_ble_eq_true rfl, Nat.le_of_ble_eq_true rfl⟩ rfl (Nat.le_of_ble_eq_true rfl) d_Law_law_1176 (fun r1 hr1 => ?_)
  refine zv_aload_n X d_Law_law_1179 rfl 2 rfl ?_
  refine zv_saload_n X d_Law_law_1180 rfl 0 rfl ?_
  refine zv_iload_n X d_Law_law_1181 rfl 3 rfl ?_
  refine zv_iconst X d_Law_law_1182 ?_
  refine zv_iadd X d_Law_law_1183 ?_
  refine zv_sld X hL d_Law_law_1184 (fun ha1184 hb1184 => ?_)
  refine zv_saload_n X d_Law_law_1185 rfl 0 rfl ?_
  refine zv_iload_n X d_Law_law_1186 rfl 3 rfl ?_
  refine zv_iconst X d_Law_law_1187 ?_
  refine zv_iadd X d_Law_law_1188 ?_
  refine zv_sld X hL d_Law_law_1189 (fun ha1189 hb1189 => ?_)
  refine zv_cVP1 X (av := [zi (xz xs (v3 + 1)), zi (xz xs (v3 + 2))]) (st := [zi r1]) (ci := 7) (c_Model_right Γ.2.1 X.2.2.2.2.2.2.2.1 hN (xz xs (v3 + 1)) (xz xs (v3 + 2)) D) mk_Law_120 rfl (za_144 hN) ⟨rfl, rfl, Nat.le_of_ble_eq_true rfl, Nat.le_of_ble_eq_true rfl⟩ rfl (Nat.le_of_ble_eq_true rfl) d_Law_law_1190 (fun r2 hr2 => ?_)
  refine zv_icmp_eq X (tgt := 1316) d_Law_law_1193 (by decide) (fun h1193 => ?_) (fun h1193 => ?_)
  · exact v_Law_law_1316 X hN hL v3 K10 D hK10
  · refine zv_iconst X d_Law_law_1196 ?_
    exact zv_none
set_option maxRecDepth 100000 in
theorem v_Law_law_1142 {Γ : Gt} {Z : Zt} (X : Cx Γ Z code R_law 4 (some .boolean) room_1) (hN : 166 ≤ Z.2.2.2.1) {b : Nat} {xs : Nat → Int32} {L : Nat} (hL : Lx Γ Z b L xs) (v3 : Int)  (K10 : Int → Mm → Option (Unit)) (D : Mm) (hK10 : ∀ (v3 : Int) (D : Mm), Zv Γ Z 4 (QfL Γ b) (K10 v3 D) D 18 [(0, Value.ref b), (1, zr Z 1), (2, zr Z 144), (3, zi v3)] []) : Zv Γ Z 4 (QfL Γ b) (f_Law_law_1142 xs L v3 K10 D) D 1142 [(0, Value.ref b), (1, zr Z 1), (2, zr Z 144), (3, zi v3)] [] := by
  unfold f_Law_law_1142
  refine zv_aload_n X d_Law_law_1142 rfl 1 rfl ?_
  refine zv_saload_n X d_Law_law_1143 rfl 0 rfl ?_
  refine zv_iload_n X d_Law_law_1144 rfl 3 rfl ?_
  refine zv_iconst X d_Law_law_1145 ?_
  refine zv_iadd X d_Law_law_1146 ?_
  refine zv_sld X hL d_Law_law_1147 (fun ha1147 hb1147 => ?_)
  refine zv_cVP1 X (av := [zi (xz xs (v3 + 1))]) (st := []) (ci := 6) (c_Main_lean Γ.2.1 X.2.2.2.2.2.2.2.1 (Int.le_trans (by decide) hN) (xz xs (v3 + 1)) D) mk_Law_112 rfl (za_1 (Int.le_trans (by decide) hN)) ⟨rfl, rfl, Nat.le_of_ble_eq_true rfl, Nat.le_of_ble_eq_true rfl⟩ rfl (Nat.le_of_ble_eq_true rfl) d_Law_law_1148 (fun r1 hr1 => ?_)
  refine zv_aload_n X d_Law_law_1151 rfl 2 rfl ?_
  refine zv_saload_n X d_Law_law_1152 rfl 0 rfl ?_
  refine zv_iload_n X d_Law_law_1153 rfl 3 rfl ?_
  refine zv_iconst X d_Law_law_1154 ?_
  refine zv_iadd X d_Law_law_1155 ?_
  refine zv_sld X hL d_Law_law_1156 (fun ha1156 hb1156 => ?_)
  refine zv_cVP1 X (av := [zi (xz xs (v3 + 1))]) (st := [zi r1]) (ci := 7) (c_Model_lean Γ.2.1 X.2.2.2.2.2.2.2.1 hN (xz xs (v3 + 1)) D) mk_Law_116 rfl (za_144 hN) ⟨rfl, rfl, Nat.le_of_ble_eq_true rfl, Nat.le_of_ble_eq_true rfl⟩ rfl (Nat.le_of_ble_eq_true rfl) d_Law_law_1157 (fun r2 hr2 => ?_)
  refine zv_icmp_eq X (tgt := 1316) d_Law_law_1160 (by decide) (fun h1160 => ?_) (fun h1160 => ?_)
  · exact v_Law_law_1316 X hN hL v3 K10 D hK10
  · refine zv_iconst X d_Law_law_1163 ?_
    exact zv_none
set_option maxRecDepth 100000 in
theorem v_Law_law_1099 {Γ : Gt} {Z : Zt} (X : Cx Γ Z code R_law 4 (some .boolean) room_1) (hN : 166 ≤ Z.2.2.2.1) {b : Nat} {xs : Nat → Int32} {L : Nat} (hL : Lx Γ Z b L xs) (v3 : Int)  (K10 : Int → Mm → Option (Unit)) (D : Mm) (hK10 : ∀ (v3 : Int) (D : Mm), Zv Γ Z 4 (QfL Γ b) (K10 v3 D) D 18 [(0, Value.ref b), (1, zr Z 1), (2, zr Z 144), (3, zi v3)] []) : Zv Γ Z 4 (QfL Γ b) (f_Law_law_1099 xs L v3 K10 D) D 1099 [(0, Value.ref b), (1, zr Z 1), (2, zr Z 144), (3, zi v3)] [] := by
  unfold f_Law_law_1099
  refine zv_aload_n X d_Law_law_1099 rfl 1 rfl ?_
  refine zv_saload_n X d_Law_law_1100 rfl 0 rfl ?_
  refine zv_iload_n X d_Law_law_1101 rfl 3 rfl ?_
  refine zv_iconst X d_Law_law_1102 ?_
  refine zv_iadd X d_Law_law_1103 ?_
  refine zv_sld X hL d_Law_law_1104 (fun ha1104 hb1104 => ?_)
  refine zv_saload_n X d_Law_law_1105 rfl 0 rfl ?_
  refine zv_iload_n X d_Law_law_1106 rfl 3 rfl ?_
  refine zv_iconst X d_Law_law_1107 ?_
  refine zv_iadd X d_Law_law_1108 ?_
  refine zv_sld X hL d_Law_law_1109 (fun ha1109 hb1109 => ?_)
  refine zv_saload_n X d_Law_law_1110 rfl 0 rfl ?_
  refine zv_iload_n X d_Law_law_1111 rfl 3 rfl ?_
  refine zv_iconst X d_Law_law_1112 ?_
  refine zv_iadd X d_Law_law_1113 ?_
  refine zv_sld X hL d_Law_law_1114 (fun ha1114 hb1114 => ?_)
  refine zv_cVP1 X (av := [zi (xz xs (v3 + 1)), zi (xz xs (v3 + 2)), zi (xz xs (v3 + 3))]) (st := []) (ci := 6) (c_Main_slips Γ.2.1 X.2.2.2.2.2.2.2.1 (Int.le_trans (by decide) hN) (xz xs (v3 + 1)) (xz xs (v3 + 2)) (xz xs (v3 + 3)) D) mk_Law_108 rfl (za_1 (Int.le_trans (by decide) hN)) ⟨rfl, rfl, Nat.le_of_ble_eq_true rfl, Nat.le_of_ble_eq_true rfl⟩ rfl (Nat.le_of_ble_eq_true rfl) d_Law_law_1115 (fun r1 hr1 => ?_)
  refine zv_aload_n X d_Law_law_1118 rfl 2 rfl ?_
  refine zv_saload_n X d_Law_law_1119 rfl 0 rfl ?_
  refine zv_iload_n X d_Law_law_1120 rfl 3 rfl ?_
  refine zv_iconst X d_Law_law_1121 ?_
  refine zv_iadd X d_Law_law_1122 ?_
  refine zv_sld X hL d_Law_law_1123 (fun ha1123 hb1123 => ?_)
  refine zv_saload_n X d_Law_law_1124 rfl 0 rfl ?_
  refine zv_iload_n X d_Law_law_1125 rfl 3 rfl ?_
  refine zv_iconst X d_Law_law_1126 ?_
  refine zv_iadd X d_Law_law_1127 ?_
  refine zv_sld X hL d_Law_law_1128 (fun ha1128 hb1128 => ?_)
  refine zv_saload_n X d_Law_law_1129 rfl 0 rfl ?_
  refine zv_iload_n X d_Law_law_1130 rfl 3 rfl ?_
  refine zv_iconst X d_Law_law_1131 ?_
  refine zv_iadd X d_Law_law_1132 ?_
  refine zv_sld X hL d_Law_law_1133 (fun ha1133 hb1133 => ?_)
  refine zv_cVP1 X (av := [zi (xz xs (v3 + 1)), zi (xz xs (v3 + 2)), zi (xz xs (v3 + 3))]) (st := [zi r1]) (ci := 7) (c_Model_slips Γ.2.1 X.2.2.2.2.2.2.2.1 hN (xz xs (v3 + 1)) (xz xs (v3 + 2)) (xz xs (v3 + 3)) D) mk_Law_111 rfl (za_144 hN) ⟨rfl, rfl, Nat.le_of_ble_eq_true rfl, Nat.le_of_ble_eq_true rfl⟩ rfl (Nat.le_of_ble_eq_true rfl) d_Law_law_1134 (fun r2 hr2 => ?_)
  refine zv_icmp_eq X (tgt := 1316) d_Law_law_1137 (by decide) (fun h1137 => ?_) (fun h1137 => ?_)
  · exact v_Law_law_1316 X hN hL v3 K10 D hK10
  · refine zv_iconst X d_Law_law_1140 ?_
    exact zv_none
set_option maxRecDepth 100000 in
theorem v_Law_law_1066 {Γ : Gt} {Z : Zt} (X : Cx Γ Z code R_law 4 (some .boolean) room_1) (hN : 166 ≤ Z.2.2.2.1) {b : Nat} {xs : Nat → Int32} {L : Nat} (hL : Lx Γ Z b L xs) (v3 : Int)  (K10 : Int → Mm → Option (Unit)) (D : Mm) (hK10 : ∀ (v3 : Int) (D : Mm), Zv Γ Z 4 (QfL Γ b) (K10 v3 D) D 18 [(0, Value.ref b), (1, zr Z 1), (2, zr Z 144), (3, zi v3)] []) : Zv Γ Z 4 (QfL Γ b) (f_Law_law_1066 xs L v3 K10 D) D 1066 [(0, Value.ref b), (1, zr Z 1), (2, zr Z 144), (3, zi v3)] [] := by
  unfold f_Law_law_1066
  refine zv_aload_n X d_Law_law_1066 rfl 1 rfl ?_
  refine zv_saload_n X d_Law_law_1067 rfl 0 rfl ?_
  refine zv_iload_n X d_Law_law_1068 rfl 3 rfl ?_
  refine zv_iconst X d_Law_law_1069 ?_
  refine zv_iadd X d_Law_law_1070 ?_
  refine zv_sld X hL d_Law_law_1071 (fun ha1071 hb1071 => ?_)
  refine zv_saload_n X d_Law_law_1072 rfl 0 rfl ?_
  refine zv_iload_n X d_Law_law_1073 rfl 3 rfl ?_
  refine zv_iconst X d_Law_law_1074 ?_
  refine zv_iadd X d_Law_law_1075 ?_
  refine zv_sld X hL d_Law_law_1076 (fun ha1076 hb1076 => ?_)
  refine zv_cVM1 X (av := [zi (xz xs (v3 + 1)), zi (xz xs (v3 + 2))]) (st := []) (ci := 6) (c_Main_blind Γ.2.1 X.2.2.2.2.2.2.2.1 (Int.le_trans (by decide) hN) (xz xs (v3 + 1)) (xz xs (v3 + 2)) D) mk_Law_104 rfl (za_1 (Int.le_trans (by decide) hN)) ⟨rfl, rfl, Nat.le_of_ble_eq_true rfl, Nat.le_of_ble_eq_true rfl⟩ rfl (Nat.le_of_ble_eq_true rfl) d_Law_law_1077 (fun r1 D2 hr1 => ?_)
  refine zv_aload_n X d_Law_law_1080 rfl 2 rfl ?_
  refine zv_saload_n X d_Law_law_1081 rfl 0 rfl ?_
  refine zv_iload_n X d_Law_law_1082 rfl 3 rfl ?_
  refine zv_iconst X d_Law_law_1083 ?_
  refine zv_iadd X d_Law_law_1084 ?_
  refine zv_sld X hL d_Law_law_1085 (fun ha1085 hb1085 => ?_)
  refine zv_saload_n X d_Law_law_1086 rfl 0 rfl ?_
  refine zv_iload_n X d_Law_law_1087 rfl 3 rfl ?_
  refine zv_iconst X d_Law_law_1088 ?_
  refine zv_iadd X d_Law_law_1089 ?_
  refine zv_sld X hL d_Law_law_1090 (fun ha1090 hb1090 => ?_)
  refine zv_cVM1 X (av := [zi (xz xs (v3 + 1)), zi (xz xs (v3 + 2))]) (st := [zi r1]) (ci := 7) (c_Model_blind Γ.2.1 X.2.2.2.2.2.2.2.1 hN (xz xs (v3 + 1)) (xz xs (v3 + 2)) D2) mk_Law_107 rfl (za_144 hN) ⟨rfl, rfl, Nat.le_of_ble_eq_true rfl, Nat.le_of_ble_eq_true rfl⟩ rfl (Nat.le_of_ble_eq_true rfl) d_Law_law_1091 (fun r3 D4 hr3 => ?_)
  refine zv_icmp_eq X (tgt := 1316) d_Law_law_1094 (by decide) (fun h1094 => ?_) (fun h1094 => ?_)
  · exact v_Law_law_1316 X hN hL v3 K10 D4 hK10
  · refine zv_iconst X d_Law_law_1097 ?_
    exact zv_none
set_option maxRecDepth 100000 in
theorem v_Law_law_1033 {Γ : Gt} {Z : Zt} (X : Cx Γ Z code R_law 4 (some .boolean) room_1) (hN : 166 ≤ Z.2.2.2.1) {b : Nat} {xs : Nat → Int32} {L : Nat} (hL : Lx Γ Z b L xs) (v3 : Int)  (K10 : Int → Mm → Option (Unit)) (D : Mm) (hK10 : ∀ (v3 : Int) (D : Mm), Zv Γ Z 4 (QfL Γ b) (K10 v3 D) D 18 [(0, Value.ref b), (1, zr Z 1), (2, zr Z 144), (3, zi v3)] []) : Zv Γ Z 4 (QfL Γ b) (f_Law_law_1033 xs L v3 K10 D) D 1033 [(0, Value.ref b), (1, zr Z 1), (2, zr Z 144), (3, zi v3)] [] := by
  unfold f_Law_law_1033
  refine zv_aload_n X d_Law_law_1033 rfl 1 rfl ?_
  refine zv_saload_n X d_Law_law_1034 rfl 0 rfl ?_
  refine zv_iload_n X d_Law_law_1035 rfl 3 rfl ?_
  refine zv_iconst X d_Law_law_1036 ?_
  refine zv_iadd X d_Law_law_1037 ?_
  refine zv_sld X hL d_Law_law_1038 (fun ha1038 hb1038 => ?_)
  refine zv_saload_n X d_Law_law_1039 rfl 0 rfl ?_
  refine zv_iload_n X d_Law_law_1040 rfl 3 rfl ?_
  refine zv_iconst X d_Law_law_1041 ?_
  refine zv_iadd X d_Law_law_1042 ?_
  refine zv_sld X hL d_Law_law_1043 (fun ha1043 hb1043 => ?_)
  refine zv_cVP1 X (av := [zi (xz xs (v3 + 1)), zi (xz xs (v3 + 2))]) (st := []) (ci := 6) (c_Main_leave Γ.2.1 X.2.2.2.2.2.2.2.1 (Int.le_trans (by decide) hN) (xz xs (v3 + 1)) (xz xs (v3 + 2)) D) mk_Law_100 rfl (za_1 (Int.le_trans (by decide) hN)) ⟨rfl, rfl, Nat.le_of_ble_eq_true rfl, Nat.le_of_ble_eq_true rfl⟩ rfl (Nat.le_of_ble_eq_true rfl) d_Law_law_1044 (fun r1 hr1 => ?_)
  refine zv_aload_n X d_Law_law_1047 rfl 2 rfl ?_
  refine zv_saload_n X d_Law_law_1048 rfl 0 rfl ?_
  refine zv_iload_n X d_Law_law_1049 rfl 3 rfl ?_
  refine zv_iconst X d_Law_law_1050 ?_
  refine zv_iadd X d_Law_law_1051 ?_
  refine zv_sld X hL d_Law_law_1052 (fun ha1052 hb1052 => ?_)
  refine zv_saload_n X d_Law_law_1053 rfl 0 rfl ?_
  refine zv_iload_n X d_Law_law_1054 rfl 3 rfl ?_
  refine zv_iconst X d_Law_law_1055 ?_
  refine zv_iadd X d_Law_law_1056 ?_
  refine zv_sld X hL d_Law_law_1057 (fun ha1057 hb1057 => ?_)
  refine zv_cVP1 X (av := [zi (xz xs (v3 + 1)), zi (xz xs (v3 + 2))]) (st := [zi r1]) (ci := 7) (c_Model_leave Γ.2.1 X.2.2.2.2.2.2.2.1 hN (xz xs (v3 + 1)) (xz xs (v3 + 2)) D) mk_Law_103 rfl (za_144 hN) ⟨rfl, rfl, Nat.le_of_ble_eq_true rfl, Nat.le_of_ble_eq_true rfl⟩ rfl (Nat.le_of_ble_eq_true rfl) d_Law_law_1058 (fun r2 hr2 => ?_)
  refine zv_icmp_eq X (tgt := 1316) d_Law_law_1061 (by decide) (fun h1061 => ?_) (fun h1061 => ?_)
  · exact v_Law_law_1316 X hN hL v3 K10 D hK10
  · refine zv_iconst X d_Law_law_1064 ?_
    exact zv_none
set_option maxRecDepth 100000 in
theorem v_Law_law_1000 {Γ : Gt} {Z : Zt} (X : Cx Γ Z code R_law 4 (some .boolean) room_1) (hN : 166 ≤ Z.2.2.2.1) {b : Nat} {xs : Nat → Int32} {L : Nat} (hL : Lx Γ Z b L xs) (v3 : Int)  (K10 : Int → Mm → Option (Unit)) (D : Mm) (hK10 : ∀ (v3 : Int) (D : Mm), Zv Γ Z 4 (QfL Γ b) (K10 v3 D) D 18 [(0, Value.ref b), (1, zr Z 1), (2, zr Z 144), (3, zi v3)] []) : Zv Γ Z 4 (QfL Γ b) (f_Law_law_1000 xs L v3 K10 D) D 1000 [(0, Value.ref b), (1, zr Z 1), (2, zr Z 144), (3, zi v3)] [] := by
  unfold f_Law_law_1000
  refine zv_aload_n X d_Law_law_1000 rfl 1 rfl ?_
  refine zv_saload_n X d_Law_law_1001 rfl 0 rfl ?_
  refine zv_iload_n X d_Law_law_1002 rfl 3 rfl ?_
  refine zv_iconst X d_Law_law_1003 ?_
  refine zv_iadd X d_Law_law_1004 ?_
  refine zv_sld X hL d_Law_law_1005 (fun ha1005 hb1005 => ?_)
  refine zv_saload_n X d_Law_law_1006 rfl 0 rfl ?_
  refine zv_iload_n X d_Law_law_1007 rfl 3 rfl ?_
  refine zv_iconst X d_Law_law_1008 ?_
  refine zv_iadd X d_Law_law_1009 ?_
  refine zv_sld X hL d_Law_law_1010 (fun ha1010 hb1010 => ?_)
  refine zv_cVM1 X (av := [zi (xz xs (v3 + 1)), zi (xz xs (v3 + 2))]) (st := []) (ci := 6) (c_Main_sure Γ.2.1 X.2.2.2.2.2.2.2.1 (Int.le_trans (by decide) hN) (xz xs (v3 + 1)) (xz xs (v3 + 2)) D) mk_Law_96 rfl (za_1 (Int.le_trans (by decide) hN)) ⟨rfl, rfl, Nat.le_of_ble_eq_true rfl, Nat.le_of_ble_eq_true rfl⟩ rfl (Nat.le_of_ble_eq_true rfl) d_Law_law_1011 (fun r1 D2 hr1 => ?_)
  refine zv_aload_n X d_Law_law_1014 rfl 2 rfl ?_
  refine zv_saload_n X d_Law_law_1015 rfl 0 rfl ?_
  refine zv_iload_n X d_Law_law_1016 rfl 3 rfl ?_
  refine zv_iconst X d_Law_law_1017 ?_
  refine zv_iadd X d_Law_law_1018 ?_
  refine zv_sld X hL d_Law_law_1019 (fun ha1019 hb1019 => ?_)
  refine zv_saload_n X d_Law_law_1020 rfl 0 rfl ?_
  refine zv_iload_n X d_Law_law_1021 rfl 3 rfl ?_
  refine zv_iconst X d_Law_law_1022 ?_
  refine zv_iadd X d_Law_law_1023 ?_
  refine zv_sld X hL d_Law_law_1024 (fun ha1024 hb1024 => ?_)
  refine zv_cVP1 X (av := [zi (xz xs (v3 + 1)), zi (xz xs (v3 + 2))]) (st := [zi r1]) (ci := 7) (c_Model_sure Γ.2.1 X.2.2.2.2.2.2.2.1 hN (xz xs (v3 + 1)) (xz xs (v3 + 2)) D2) mk_Law_99 rfl (za_144 hN) ⟨rfl, rfl, Nat.le_of_ble_eq_true rfl, Nat.le_of_ble_eq_true rfl⟩ rfl (Nat.le_of_ble_eq_true rfl) d_Law_law_1025 (fun r3 hr3 => ?_)
  refine zv_icmp_eq X (tgt := 1316) d_Law_law_1028 (by decide) (fun h1028 => ?_) (fun h1028 => ?_)
  · exact v_Law_law_1316 X hN hL v3 K10 D2 hK10
  · refine zv_iconst X d_Law_law_1031 ?_
    exact zv_none
set_option maxRecDepth 100000 in
theorem v_Law_law_992 {Γ : Gt} {Z : Zt} (X : Cx Γ Z code R_law 4 (some .boolean) room_1) (hN : 166 ≤ Z.2.2.2.1) {b : Nat} {xs : Nat → Int32} {L : Nat} (hL : Lx Γ Z b L xs) (v3 s0 s1 s2 s3 s5 : Int)  (K10 : Int → Mm → Option (Unit)) (D : Mm) (hK10 : ∀ (v3 : Int) (D : Mm), Zv Γ Z 4 (QfL Γ b) (K10 v3 D) D 18 [(0, Value.ref b), (1, zr Z 1), (2, zr Z 144), (3, zi v3)] []) : Zv Γ Z 4 (QfL Γ b) (f_Law_law_992 xs L v3 s0 s1 s2 s3 s5 K10 D) D 992 [(0, Value.ref b), (1, zr Z 1), (2, zr Z 144), (3, zi v3)] [zi s0, zi s1, zi s2, zi s3, zr Z 144, zi s5] := by
  unfold f_Law_law_992
  refine zv_cVP1 X (av := [zi s3, zi s2, zi s1, zi s0]) (st := [zi s5]) (ci := 7) (c_Model_ground Γ.2.1 X.2.2.2.2.2.2.2.1 hN s3 s2 s1 s0 D) mk_Law_95 rfl (za_144 hN) ⟨rfl, rfl, Nat.le_of_ble_eq_true rfl, Nat.le_of_ble_eq_true rfl⟩ rfl (Nat.le_of_ble_eq_true rfl) d_Law_law_992 (fun r1 hr1 => ?_)
  refine zv_icmp_eq X (tgt := 1316) d_Law_law_995 (by decide) (fun h995 => ?_) (fun h995 => ?_)
  · exact v_Law_law_1316 X hN hL v3 K10 D hK10
  · refine zv_iconst X d_Law_law_998 ?_
    exact zv_none
set_option maxRecDepth 100000 in
theorem v_Law_law_960 {Γ : Gt} {Z : Zt} (X : Cx Γ Z code R_law 4 (some .boolean) room_1) (hN : 166 ≤ Z.2.2.2.1) {b : Nat} {xs : Nat → Int32} {L : Nat} (hL : Lx Γ Z b L xs) (v3 s0 s1 s2 s3 : Int)  (K10 : Int → Mm → Option (Unit)) (D : Mm) (hK10 : ∀ (v3 : Int) (D : Mm), Zv Γ Z 4 (QfL Γ b) (K10 v3 D) D 18 [(0, Value.ref b), (1, zr Z 1), (2, zr Z 144), (3, zi v3)] []) : Zv Γ Z 4 (QfL Γ b) (f_Law_law_960 xs L v3 s0 s1 s2 s3 K10 D) D 960 [(0, Value.ref b), (1, zr Z 1), (2, zr Z 144), (3, zi v3)] [zi s0, zi s1, zi s2, zi s3, zr Z 1] := by
  unfold f_Law_law_960
  refine zv_cVM1 X (av := [zi s3, zi s2, zi s1, zi s0]) (st := []) (ci := 6) (c_Main_ground Γ.2.1 X.2.2.2.2.2.2.2.1 (Int.le_trans (by decide) hN) s3 s2 s1 s0 D) mk_Law_92 rfl (za_1 (Int.le_trans (by decide) hN)) ⟨rfl, rfl, Nat.le_of_ble_eq_true rfl, Nat.le_of_ble_eq_true rfl⟩ rfl (Nat.le_of_ble_eq_true rfl) d_Law_law_960 (fun r1 D2 hr1 => ?_)
  refine zv_aload_n X d_Law_law_963 rfl 2 rfl ?_
  refine zv_saload_n X d_Law_law_964 rfl 0 rfl ?_
  refine zv_iload_n X d_Law_law_965 rfl 3 rfl ?_
  refine zv_iconst X d_Law_law_966 ?_
  refine zv_iadd X d_Law_law_967 ?_
  refine zv_sld X hL d_Law_law_968 (fun ha968 hb968 => ?_)
  refine zv_saload_n X d_Law_law_969 rfl 0 rfl ?_
  refine zv_iload_n X d_Law_law_970 rfl 3 rfl ?_
  refine zv_iconst X d_Law_law_971 ?_
  refine zv_iadd X d_Law_law_972 ?_
  refine zv_sld X hL d_Law_law_973 (fun ha973 hb973 => ?_)
  refine zv_saload_n X d_Law_law_974 rfl 0 rfl ?_
  refine zv_iload_n X d_Law_law_975 rfl 3 rfl ?_
  refine zv_iconst X d_Law_law_976 ?_
  refine zv_iadd X d_Law_law_977 ?_
  refine zv_sld X hL d_Law_law_978 (fun ha978 hb978 => ?_)
  refine zv_saload_n X d_Law_law_979 rfl 0 rfl ?_
  refine zv_iload_n X d_Law_law_980 rfl 3 rfl ?_
  refine zv_iconst X d_Law_law_981 ?_
  refine zv_iadd X d_Law_law_982 ?_
  refine zv_sld X hL d_Law_law_983 (fun ha983 hb983 => ?_)
  refine zv_if_eq X (y := 0) (tgt := 991) d_Law_law_984 (by decide) (fun h984 => ?_) (fun h984 => ?_)
  · refine zv_iconst X d_Law_law_991 ?_
    exact v_Law_law_992 X hN hL v3 0 (xz xs (v3 + 3)) (xz xs (v3 + 2)) (xz xs (v3 + 1)) r1 K10 D2 hK10
  · refine zv_iconst X d_Law_law_987 ?_
    refine zv_goto X (tgt := 992) d_Law_law_988 (by decide) ?_
    exact v_Law_law_992 X hN hL v3 1 (xz xs (v3 + 3)) (xz xs (v3 + 2)) (xz xs (v3 + 1)) r1 K10 D2 hK10
set_option maxRecDepth 100000 in
theorem v_Law_law_931 {Γ : Gt} {Z : Zt} (X : Cx Γ Z code R_law 4 (some .boolean) room_1) (hN : 166 ≤ Z.2.2.2.1) {b : Nat} {xs : Nat → Int32} {L : Nat} (hL : Lx Γ Z b L xs) (v3 : Int)  (K10 : Int → Mm → Option (Unit)) (D : Mm) (hK10 : ∀ (v3 : Int) (D : Mm), Zv Γ Z 4 (QfL Γ b) (K10 v3 D) D 18 [(0, Value.ref b), (1, zr Z 1), (2, zr Z 144), (3, zi v3)] []) : Zv Γ Z 4 (QfL Γ b) (f_Law_law_931 xs L v3 K10 D) D 931 [(0, Value.ref b), (1, zr Z 1), (2, zr Z 144), (3, zi v3)] [] := by
  unfold f_Law_law_931
  refine zv_aload_n X d_Law_law_931 rfl 1 rfl ?_
  refine zv_saload_n X d_Law_law_932 rfl 0 rfl ?_
  refine zv_iload_n X d_Law_law_933 rfl 3 rfl ?_
  refine zv_iconst X d_Law_law_934 ?_
  refine zv_iadd X d_Law_law_935 ?_
  refine zv_sld X hL d_Law_law_936 (fun ha936 hb936 => ?_)
  refine zv_saload_n X d_Law_law_937 rfl 0 rfl ?_
  refine zv_iload_n X d_Law_law_938 rfl 3 rfl ?_
  refine zv_iconst X d_Law_law_939 ?_
  refine zv_iadd X d_Law_law_940 ?_
  refine zv_sld X hL d_Law_law_941 (fun ha941 hb941 => ?_)
  refine zv_saload_n X d_Law_law_942 rfl 0 rfl ?_
  refine zv_iload_n X d_Law_law_943 rfl 3 rfl ?_
  refine zv_iconst X d_Law_law_944 ?_
  refine zv_iadd X d_Law_law_945 ?_
  refine zv_sld X hL d_Law_law_946 (fun ha946 hb946 => ?_)
  refine zv_saload_n X d_Law_law_947 rfl 0 rfl ?_
  refine zv_iload_n X d_Law_law_948 rfl 3 rfl ?_
  refine zv_iconst X d_Law_law_949 ?_
  refine zv_iadd X d_Law_law_950 ?_
  refine zv_sld X hL d_Law_law_951 (fun ha951 hb951 => ?_)
  refine zv_if_eq X (y := 0) (tgt := 959) d_Law_law_952 (by decide) (fun h952 => ?_) (fun h952 => ?_)
  · refine zv_iconst X d_Law_law_959 ?_
    exact v_Law_law_960 X hN hL v3 0 (xz xs (v3 + 3)) (xz xs (v3 + 2)) (xz xs (v3 + 1)) K10 D hK10
  · refine zv_iconst X d_Law_law_955 ?_
    refine zv_goto X (tgt := 960) d_Law_law_956 (by decide) ?_
    exact v_Law_law_960 X hN hL v3 1 (xz xs (v3 + 3)) (xz xs (v3 + 2)) (xz xs (v3 + 1)) K10 D hK10
set_option maxRecDepth 100000 in
theorem v_Law_law_923 {Γ : Gt} {Z : Zt} (X : Cx Γ Z code R_law 4 (some .boolean) room_1) (hN : 166 ≤ Z.2.2.2.1) {b : Nat} {xs : Nat → Int32} {L : Nat} (hL : Lx Γ Z b L xs) (v3 s0 s1 s2 s3 s5 : Int)  (K10 : Int → Mm → Option (Unit)) (D : Mm) (hK10 : ∀ (v3 : Int) (D : Mm), Zv Γ Z 4 (QfL Γ b) (K10 v3 D) D 18 [(0, Value.ref b), (1, zr Z 1), (2, zr Z 144), (3, zi v3)] []) : Zv Γ Z 4 (QfL Γ b) (f_Law_law_923 xs L v3 s0 s1 s2 s3 s5 K10 D) D 923 [(0, Value.ref b), (1, zr Z 1), (2, zr Z 144), (3, zi v3)] [zi s0, zi s1, zi s2, zi s3, zr Z 144, zi s5] := by
  unfold f_Law_law_923
  refine zv_cVP1 X (av := [zi s3, zi s2, zi s1, zi s0]) (st := [zi s5]) (ci := 7) (c_Model_books Γ.2.1 X.2.2.2.2.2.2.2.1 hN s3 s2 s1 s0 D) mk_Law_91 rfl (za_144 hN) ⟨rfl, rfl, Nat.le_of_ble_eq_true rfl, Nat.le_of_ble_eq_true rfl⟩ rfl (Nat.le_of_ble_eq_true rfl) d_Law_law_923 (fun r1 hr1 => ?_)
  refine zv_icmp_eq X (tgt := 1316) d_Law_law_926 (by decide) (fun h926 => ?_) (fun h926 => ?_)
  · exact v_Law_law_1316 X hN hL v3 K10 D hK10
  · refine zv_iconst X d_Law_law_929 ?_
    exact zv_none
set_option maxRecDepth 100000 in
theorem v_Law_law_891 {Γ : Gt} {Z : Zt} (X : Cx Γ Z code R_law 4 (some .boolean) room_1) (hN : 166 ≤ Z.2.2.2.1) {b : Nat} {xs : Nat → Int32} {L : Nat} (hL : Lx Γ Z b L xs) (v3 s0 s1 s2 s3 : Int)  (K10 : Int → Mm → Option (Unit)) (D : Mm) (hK10 : ∀ (v3 : Int) (D : Mm), Zv Γ Z 4 (QfL Γ b) (K10 v3 D) D 18 [(0, Value.ref b), (1, zr Z 1), (2, zr Z 144), (3, zi v3)] []) : Zv Γ Z 4 (QfL Γ b) (f_Law_law_891 xs L v3 s0 s1 s2 s3 K10 D) D 891 [(0, Value.ref b), (1, zr Z 1), (2, zr Z 144), (3, zi v3)] [zi s0, zi s1, zi s2, zi s3, zr Z 1] := by
  unfold f_Law_law_891
  refine zv_cVM1 X (av := [zi s3, zi s2, zi s1, zi s0]) (st := []) (ci := 6) (c_Main_books Γ.2.1 X.2.2.2.2.2.2.2.1 (Int.le_trans (by decide) hN) s3 s2 s1 s0 D) mk_Law_87 rfl (za_1 (Int.le_trans (by decide) hN)) ⟨rfl, rfl, Nat.le_of_ble_eq_true rfl, Nat.le_of_ble_eq_true rfl⟩ rfl (Nat.le_of_ble_eq_true rfl) d_Law_law_891 (fun r1 D2 hr1 => ?_)
  refine zv_aload_n X d_Law_law_894 rfl 2 rfl ?_
  refine zv_saload_n X d_Law_law_895 rfl 0 rfl ?_
  refine zv_iload_n X d_Law_law_896 rfl 3 rfl ?_
  refine zv_iconst X d_Law_law_897 ?_
  refine zv_iadd X d_Law_law_898 ?_
  refine zv_sld X hL d_Law_law_899 (fun ha899 hb899 => ?_)
  refine zv_saload_n X d_Law_law_900 rfl 0 rfl ?_
  refine zv_iload_n X d_Law_law_901 rfl 3 rfl ?_
  refine zv_iconst X d_Law_law_902 ?_
  refine zv_iadd X d_Law_law_903 ?_
  refine zv_sld X hL d_Law_law_904 (fun ha904 hb904 => ?_)
  refine zv_saload_n X d_Law_law_905 rfl 0 rfl ?_
  refine zv_iload_n X d_Law_law_906 rfl 3 rfl ?_
  refine zv_iconst X d_Law_law_907 ?_
  refine zv_iadd X d_Law_law_908 ?_
  refine zv_sld X hL d_Law_law_909 (fun ha909 hb909 => ?_)
  refine zv_saload_n X d_Law_law_910 rfl 0 rfl ?_
  refine zv_iload_n X d_Law_law_911 rfl 3 rfl ?_
  refine zv_iconst X d_Law_law_912 ?_
  refine zv_iadd X d_Law_law_913 ?_
  refine zv_sld X hL d_Law_law_914 (fun ha914 hb914 => ?_)
  refine zv_if_eq X (y := 0) (tgt := 922) d_Law_law_915 (by decide) (fun h915 => ?_) (fun h915 => ?_)
  · refine zv_iconst X d_Law_law_922 ?_
    exact v_Law_law_923 X hN hL v3 0 (xz xs (v3 + 3)) (xz xs (v3 + 2)) (xz xs (v3 + 1)) r1 K10 D2 hK10
  · refine zv_iconst X d_Law_law_918 ?_
    refine zv_goto X (tgt := 923) d_Law_law_919 (by decide) ?_
    exact v_Law_law_923 X hN hL v3 1 (xz xs (v3 + 3)) (xz xs (v3 + 2)) (xz xs (v3 + 1)) r1 K10 D2 hK10
set_option maxRecDepth 100000 in
theorem v_Law_law_862 {Γ : Gt} {Z : Zt} (X : Cx Γ Z code R_law 4 (some .boolean) room_1) (hN : 166 ≤ Z.2.2.2.1) {b : Nat} {xs : Nat → Int32} {L : Nat} (hL : Lx Γ Z b L xs) (v3 : Int)  (K10 : Int → Mm → Option (Unit)) (D : Mm) (hK10 : ∀ (v3 : Int) (D : Mm), Zv Γ Z 4 (QfL Γ b) (K10 v3 D) D 18 [(0, Value.ref b), (1, zr Z 1), (2, zr Z 144), (3, zi v3)] []) : Zv Γ Z 4 (QfL Γ b) (f_Law_law_862 xs L v3 K10 D) D 862 [(0, Value.ref b), (1, zr Z 1), (2, zr Z 144), (3, zi v3)] [] := by
  unfold f_Law_law_862
  refine zv_aload_n X d_Law_law_862 rfl 1 rfl ?_
  refine zv_saload_n X d_Law_law_863 rfl 0 rfl ?_
  refine zv_iload_n X d_Law_law_864 rfl 3 rfl ?_
  refine zv_iconst X d_Law_law_865 ?_
  refine zv_iadd X d_Law_law_866 ?_
  refine zv_sld X hL d_Law_law_867 (fun ha867 hb867 => ?_)
  refine zv_saload_n X d_Law_law_868 rfl 0 rfl ?_
  refine zv_iload_n X d_Law_law_869 rfl 3 rfl ?_
  refine zv_iconst X d_Law_law_870 ?_
  refine zv_iadd X d_Law_law_871 ?_
  refine zv_sld X hL d_Law_law_872 (fun ha872 hb872 => ?_)
  refine zv_saload_n X d_Law_law_873 rfl 0 rfl ?_
  refine zv_iload_n X d_Law_law_874 rfl 3 rfl ?_
  refine zv_iconst X d_Law_law_875 ?_
  refine zv_iadd X d_Law_law_876 ?_
  refine zv_sld X hL d_Law_law_877 (fun ha877 hb877 => ?_)
  refine zv_saload_n X d_Law_law_878 rfl 0 rfl ?_
  refine zv_iload_n X d_Law_law_879 rfl 3 rfl ?_
  refine zv_iconst X d_Law_law_880 ?_
  refine zv_iadd X d_Law_law_881 ?_
  refine zv_sld X hL d_Law_law_882 (fun ha882 hb882 => ?_)
  refine zv_if_eq X (y := 0) (tgt := 890) d_Law_law_883 (by decide) (fun h883 => ?_) (fun h883 => ?_)
  · refine zv_iconst X d_Law_law_890 ?_
    exact v_Law_law_891 X hN hL v3 0 (xz xs (v3 + 3)) (xz xs (v3 + 2)) (xz xs (v3 + 1)) K10 D hK10
  · refine zv_iconst X d_Law_law_886 ?_
    refine zv_goto X (tgt := 891) d_Law_law_887 (by decide) ?_
    exact v_Law_law_891 X hN hL v3 1 (xz xs (v3 + 3)) (xz xs (v3 + 2)) (xz xs (v3 + 1)) K10 D hK10
set_option maxRecDepth 100000 in
theorem v_Law_law_819 {Γ : Gt} {Z : Zt} (X : Cx Γ Z code R_law 4 (some .boolean) room_1) (hN : 166 ≤ Z.2.2.2.1) {b : Nat} {xs : Nat → Int32} {L : Nat} (hL : Lx Γ Z b L xs) (v3 : Int)  (K10 : Int → Mm → Option (Unit)) (D : Mm) (hK10 : ∀ (v3 : Int) (D : Mm), Zv Γ Z 4 (QfL Γ b) (K10 v3 D) D 18 [(0, Value.ref b), (1, zr Z 1), (2, zr Z 144), (3, zi v3)] []) : Zv Γ Z 4 (QfL Γ b) (f_Law_law_819 xs L v3 K10 D) D 819 [(0, Value.ref b), (1, zr Z 1), (2, zr Z 144), (3, zi v3)] [] := by
  unfold f_Law_law_819
  refine zv_aload_n X d_Law_law_819 rfl 1 rfl ?_
  refine zv_saload_n X d_Law_law_820 rfl 0 rfl ?_
  refine zv_iload_n X d_Law_law_821 rfl 3 rfl ?_
  refine zv_iconst X d_Law_law_822 ?_
  refine zv_iadd X d_Law_law_823 ?_
  refine zv_sld X hL d_Law_law_824 (fun ha824 hb824 => ?_)
  refine zv_saload_n X d_Law_law_825 rfl 0 rfl ?_
  refine zv_iload_n X d_Law_law_826 rfl 3 rfl ?_
  refine zv_iconst X d_Law_law_827 ?_
  refine zv_iadd X d_Law_law_828 ?_
  refine zv_sld X hL d_Law_law_829 (fun ha829 hb829 => ?_)
  refine zv_saload_n X d_Law_law_830 rfl 0 rfl ?_
  refine zv_iload_n X d_Law_law_831 rfl 3 rfl ?_
  refine zv_iconst X d_Law_law_832 ?_
  refine zv_iadd X d_Law_law_833 ?_
  refine zv_sld X hL d_Law_law_834 (fun ha834 hb834 => ?_)
  refine zv_cVM1 X (av := [zi (xz xs (v3 + 1)), zi (xz xs (v3 + 2)), zi (xz xs (v3 + 3))]) (st := []) (ci := 6) (c_Main_count Γ.2.1 X.2.2.2.2.2.2.2.1 (Int.le_trans (by decide) hN) (xz xs (v3 + 1)) (xz xs (v3 + 2)) (xz xs (v3 + 3)) D) mk_Law_83 rfl (za_1 (Int.le_trans (by decide) hN)) ⟨rfl, rfl, Nat.le_of_ble_eq_true rfl, Nat.le_of_ble_eq_true rfl⟩ rfl (Nat.le_of_ble_eq_true rfl) d_Law_law_835 (fun r1 D2 hr1 => ?_)
  refine zv_aload_n X d_Law_law_838 rfl 2 rfl ?_
  refine zv_saload_n X d_Law_law_839 rfl 0 rfl ?_
  refine zv_iload_n X d_Law_law_840 rfl 3 rfl ?_
  refine zv_iconst X d_Law_law_841 ?_
  refine zv_iadd X d_Law_law_842 ?_
  refine zv_sld X hL d_Law_law_843 (fun ha843 hb843 => ?_)
  refine zv_saload_n X d_Law_law_844 rfl 0 rfl ?_
  refine zv_iload_n X d_Law_law_845 rfl 3 rfl ?_
  refine zv_iconst X d_Law_law_846 ?_
  refine zv_iadd X d_Law_law_847 ?_
  refine zv_sld X hL d_Law_law_848 (fun ha848 hb848 => ?_)
  refine zv_saload_n X d_Law_law_849 rfl 0 rfl ?_
  refine zv_iload_n X d_Law_law_850 rfl 3 rfl ?_
  refine zv_iconst X d_Law_law_851 ?_
  refine zv_iadd X d_Law_law_852 ?_
  refine zv_sld X hL d_Law_law_853 (fun ha853 hb853 => ?_)
  refine zv_cVM1 X (av := [zi (xz xs (v3 + 1)), zi (xz xs (v3 + 2)), zi (xz xs (v3 + 3))]) (st := [zi r1]) (ci := 7) (c_Model_count Γ.2.1 X.2.2.2.2.2.2.2.1 hN (xz xs (v3 + 1)) (xz xs (v3 + 2)) (xz xs (v3 + 3)) D2) mk_Law_86 rfl (za_144 hN) ⟨rfl, rfl, Nat.le_of_ble_eq_true rfl, Nat.le_of_ble_eq_true rfl⟩ rfl (Nat.le_of_ble_eq_true rfl) d_Law_law_854 (fun r3 D4 hr3 => ?_)
  refine zv_icmp_eq X (tgt := 1316) d_Law_law_857 (by decide) (fun h857 => ?_) (fun h857 => ?_)
  · exact v_Law_law_1316 X hN hL v3 K10 D4 hK10
  · refine zv_iconst X d_Law_law_860 ?_
    exact zv_none
set_option maxRecDepth 100000 in
theorem v_Law_law_776 {Γ : Gt} {Z : Zt} (X : Cx Γ Z code R_law 4 (some .boolean) room_1) (hN : 166 ≤ Z.2.2.2.1) {b : Nat} {xs : Nat → Int32} {L : Nat} (hL : Lx Γ Z b L xs) (v3 : Int)  (K10 : Int → Mm → Option (Unit)) (D : Mm) (hK10 : ∀ (v3 : Int) (D : Mm), Zv Γ Z 4 (QfL Γ b) (K10 v3 D) D 18 [(0, Value.ref b), (1, zr Z 1), (2, zr Z 144), (3, zi v3)] []) : Zv Γ Z 4 (QfL Γ b) (f_Law_law_776 xs L v3 K10 D) D 776 [(0, Value.ref b), (1, zr Z 1), (2, zr Z 144), (3, zi v3)] [] := by
  unfold f_Law_law_776
  refine zv_aload_n X d_Law_law_776 rfl 1 rfl ?_
  refine zv_saload_n X d_Law_law_777 rfl 0 rfl ?_
  refine zv_iload_n X d_Law_law_778 rfl 3 rfl ?_
  refine zv_iconst X d_Law_law_779 ?_
  refine zv_iadd X d_Law_law_780 ?_
  refine zv_sld X hL d_Law_law_781 (fun ha781 hb781 => ?_)
  refine zv_saload_n X d_Law_law_782 rfl 0 rfl ?_
  refine zv_iload_n X d_Law_law_783 rfl 3 rfl ?_
  refine zv_iconst X d_Law_law_784 ?_
  refine zv_iadd X d_Law_law_785 ?_
  refine zv_sld X hL d_Law_law_786 (fun ha786 hb786 => ?_)
  refine zv_saload_n X d_Law_law_787 rfl 0 rfl ?_
  refine zv_iload_n X d_Law_law_788 rfl 3 rfl ?_
  refine zv_iconst X d_Law_law_789 ?_
  refine zv_iadd X d_Law_law_790 ?_
  refine zv_sld X hL d_Law_law_791 (fun ha791 hb791 => ?_)
  refine zv_cVP1 X (av := [zi (xz xs (v3 + 1)), zi (xz xs (v3 + 2)), zi (xz xs (v3 + 3))]) (st := []) (ci := 6) (c_Main_cooked Γ.2.1 X.2.2.2.2.2.2.2.1 (Int.le_trans (by decide) hN) (xz xs (v3 + 1)) (xz xs (v3 + 2)) (xz xs (v3 + 3)) D) mk_Law_79 rfl (za_1 (Int.le_trans (by decide) hN)) ⟨rfl, rfl, Nat.le_of_ble_eq_true rfl, Nat.le_of_ble_eq_true rfl⟩ rfl (Nat.le_of_ble_eq_true rfl) d_Law_law_792 (fun r1 hr1 => ?_)
  refine zv_aload_n X d_Law_law_795 rfl 2 rfl ?_
  refine zv_saload_n X d_Law_law_796 rfl 0 rfl ?_
  refine zv_iload_n X d_Law_law_797 rfl 3 rfl ?_
  refine zv_iconst X d_Law_law_798 ?_
  refine zv_iadd X d_Law_law_799 ?_
  refine zv_sld X hL d_Law_law_800 (fun ha800 hb800 => ?_)
  refine zv_saload_n X d_Law_law_801 rfl 0 rfl ?_
  refine zv_iload_n X d_Law_law_802 rfl 3 rfl ?_
  refine zv_iconst X d_Law_law_803 ?_
  refine zv_iadd X d_Law_law_804 ?_
  refine zv_sld X hL d_Law_law_805 (fun ha805 hb805 => ?_)
  refine zv_saload_n X d_Law_law_806 rfl 0 rfl ?_
  refine zv_iload_n X d_Law_law_807 rfl 3 rfl ?_
  refine zv_iconst X d_Law_law_808 ?_
  refine zv_iadd X d_Law_law_809 ?_
  refine zv_sld X hL d_Law_law_810 (fun ha810 hb810 => ?_)
  refine zv_cVM1 X (av := [zi (xz xs (v3 + 1)), zi (xz xs (v3 + 2)), zi (xz xs (v3 + 3))]) (st := [zi r1]) (ci := 7) (c_Model_cooked Γ.2.1 X.2.2.2.2.2.2.2.1 hN (xz xs (v3 + 1)) (xz xs (v3 + 2)) (xz xs (v3 + 3)) D) mk_Law_82 rfl (za_144 hN) ⟨rfl, rfl, Nat.le_of_ble_eq_true rfl, Nat.le_of_ble_eq_true rfl⟩ rfl (Nat.le_of_ble_eq_true rfl) d_Law_law_811 (fun r2 D3 hr2 => ?_)
  refine zv_icmp_eq X (tgt := 1316) d_Law_law_814 (by decide) (fun h814 => ?_) (fun h814 => ?_)
  · exact v_Law_law_1316 X hN hL v3 K10 D3 hK10
  · refine zv_iconst X d_Law_law_817 ?_
    exact zv_none
set_option maxRecDepth 100000 in
theorem v_Law_law_743 {Γ : Gt} {Z : Zt} (X : Cx Γ Z code R_law 4 (some .boolean) room_1) (hN : 166 ≤ Z.2.2.2.1) {b : Nat} {xs : Nat → Int32} {L : Nat} (hL : Lx Γ Z b L xs) (v3 : Int)  (K10 : Int → Mm → Option (Unit)) (D : Mm) (hK10 : ∀ (v3 : Int) (D : Mm), Zv Γ Z 4 (QfL Γ b) (K10 v3 D) D 18 [(0, Value.ref b), (1, zr Z 1), (2, zr Z 144), (3, zi v3)] []) : Zv Γ Z 4 (QfL Γ b) (f_Law_law_743 xs L v3 K10 D) D 743 [(0, Value.ref b), (1, zr Z 1), (2, zr Z 144), (3, zi v3)] [] := by
  unfold f_Law_law_743
  refine zv_aload_n X d_Law_law_743 rfl 1 rfl ?_
  refine zv_saload_n X d_Law_law_744 rfl 0 rfl ?_
  refine zv_iload_n X d_Law_law_745 rfl 3 rfl ?_
  refine zv_iconst X d_Law_law_746 ?_
  refine zv_iadd X d_Law_law_747 ?_
  refine zv_sld X hL d_Law_law_748 (fun ha748 hb748 => ?_)
  refine zv_saload_n X d_Law_law_749 rfl 0 rfl ?_
  refine zv_iload_n X d_Law_law_750 rfl 3 rfl ?_
  refine zv_iconst X d_Law_law_751 ?_
  refine zv_iadd X d_Law_law_752 ?_
  refine zv_sld X hL d_Law_law_753 (fun ha753 hb753 => ?_)
  refine zv_cVP1 X (av := [zi (xz xs (v3 + 1)), zi (xz xs (v3 + 2))]) (st := []) (ci := 6) (c_Main_kin Γ.2.1 X.2.2.2.2.2.2.2.1 (Int.le_trans (by decide) hN) (xz xs (v3 + 1)) (xz xs (v3 + 2)) D) mk_Law_75 rfl (za_1 (Int.le_trans (by decide) hN)) ⟨rfl, rfl, Nat.le_of_ble_eq_true rfl, Nat.le_of_ble_eq_true rfl⟩ rfl (Nat.le_of_ble_eq_true rfl) d_Law_law_754 (fun r1 hr1 => ?_)
  refine zv_aload_n X d_Law_law_757 rfl 2 rfl ?_
  refine zv_saload_n X d_Law_law_758 rfl 0 rfl ?_
  refine zv_iload_n X d_Law_law_759 rfl 3 rfl ?_
  refine zv_iconst X d_Law_law_760 ?_
  refine zv_iadd X d_Law_law_761 ?_
  refine zv_sld X hL d_Law_law_762 (fun ha762 hb762 => ?_)
  refine zv_saload_n X d_Law_law_763 rfl 0 rfl ?_
  refine zv_iload_n X d_Law_law_764 rfl 3 rfl ?_
  refine zv_iconst X d_Law_law_765 ?_
  refine zv_iadd X d_Law_law_766 ?_
  refine zv_sld X hL d_Law_law_767 (fun ha767 hb767 => ?_)
  refine zv_cVM1 X (av := [zi (xz xs (v3 + 1)), zi (xz xs (v3 + 2))]) (st := [zi r1]) (ci := 7) (c_Model_kin Γ.2.1 X.2.2.2.2.2.2.2.1 hN (xz xs (v3 + 1)) (xz xs (v3 + 2)) D) mk_Law_78 rfl (za_144 hN) ⟨rfl, rfl, Nat.le_of_ble_eq_true rfl, Nat.le_of_ble_eq_true rfl⟩ rfl (Nat.le_of_ble_eq_true rfl) d_Law_law_768 (fun r2 D3 hr2 => ?_)
  refine zv_icmp_eq X (tgt := 1316) d_Law_law_771 (by decide) (fun h771 => ?_) (fun h771 => ?_)
  · exact v_Law_law_1316 X hN hL v3 K10 D3 hK10
  · refine zv_iconst X d_Law_law_774 ?_
    exact zv_none
set_option maxRecDepth 100000 in
theorem v_Law_law_668 {Γ : Gt} {Z : Zt} (X : Cx Γ Z code R_law 4 (some .boolean) room_1) (hN : 166 ≤ Z.2.2.2.1) {b : Nat} {xs : Nat → Int32} {L : Nat} (hL : Lx Γ Z b L xs) (v3 : Int)  (K10 : Int → Mm → Option (Unit)) (D : Mm) (hK10 : ∀ (v3 : Int) (D : Mm), Zv Γ Z 4 (QfL Γ b) (K10 v3 D) D 18 [(0, Value.ref b), (1, zr Z 1), (2, zr Z 144), (3, zi v3)] []) : Zv Γ Z 4 (QfL Γ b) (f_Law_law_668 xs L v3 K10 D) D 668 [(0, Value.ref b), (1, zr Z 1), (2, zr Z 144), (3, zi v3)] [] := by
  unfold f_Law_law_668
  refine zv_aload_n X d_Law_law_668 rfl 1 rfl ?_
  refine zv_saload_n X d_Law_law_669 rfl 0 rfl ?_
  refine zv_iload_n X d_Law_law_670 rfl 3 rfl ?_
  refine zv_iconst X d_Law_law_671 ?_
  refine zv_iadd X d_Law_law_672 ?_
  refine zv_sld X hL d_Law_law_673 (fun ha673 hb673 => ?_)
  refine zv_saload_n X d_Law_law_674 rfl 0 rfl ?_
  refine zv_iload_n X d_Law_law_675 rfl 3 rfl ?_
  refine zv_iconst X d_Law_law_676 ?_
  refine zv_iadd X d_Law_law_677 ?_
  refine zv_sld X hL d_Law_law_678 (fun ha678 hb678 => ?_)
  refine zv_saload_n X d_Law_law_679 rfl 0 rfl ?_
  refine zv_iload_n X d_Law_law_680 rfl 3 rfl ?_
  refine zv_iconst X d_Law_law_681 ?_
  refine zv_iadd X d_Law_law_682 ?_
  refine zv_sld X hL d_Law_law_683 (fun ha683 hb683 => ?_)
  refine zv_saload_n X d_Law_law_684 rfl 0 rfl ?_
  refine zv_iload_n X d_Law_law_685 rfl 3 rfl ?_
  refine zv_iconst X d_Law_law_686 ?_
  refine zv_iadd X d_Law_law_687 ?_
  refine zv_sld X hL d_Law_law_688 (fun ha688 hb688 => ?_)
  refine zv_saload_n X d_Law_law_689 rfl 0 rfl ?_
  refine zv_iload_n X d_Law_law_690 rfl 3 rfl ?_
  refine zv_iconst X d_Law_law_691 ?_
  refine zv_iadd X d_Law_law_692 ?_
  refine zv_sld X hL d_Law_law_693 (fun ha693 hb693 => ?_)
  refine zv_saload_n X d_Law_law_694 rfl 0 rfl ?_
  refine zv_iload_n X d_Law_law_695 rfl 3 rfl ?_
  refine zv_bipush X d_Law_law_696 (by decide +kernel) ?_
  refine zv_iadd X d_Law_law_698 ?_
  refine zv_sld X hL d_Law_law_699 (fun ha699 hb699 => ?_)
  refine zv_cVM1 X (av := [zi (xz xs (v3 + 1)), zi (xz xs (v3 + 2)), zi (xz xs (v3 + 3)), zi (xz xs (v3 + 4)), zi (xz xs (v3 + 5)), zi (xz xs (v3 + 6))]) (st := []) (ci := 6) (c_Main_shares Γ.2.1 X.2.2.2.2.2.2.2.1 (Int.le_trans (by decide) hN) (xz xs (v3 + 1)) (xz xs (v3 + 2)) (xz xs (v3 + 3)) (xz xs (v3 + 4)) (xz xs (v3 + 5)) (xz xs (v3 + 6)) D) mk_Law_70 rfl (za_1 (Int.le_trans (by decide) hN)) ⟨rfl, rfl, Nat.le_of_ble_eq_true rfl, Nat.le_of_ble_eq_true rfl⟩ rfl (Nat.le_of_ble_eq_true rfl) d_Law_law_700 (fun r1 D2 hr1 => ?_)
  refine zv_aload_n X d_Law_law_703 rfl 2 rfl ?_
  refine zv_saload_n X d_Law_law_704 rfl 0 rfl ?_
  refine zv_iload_n X d_Law_law_705 rfl 3 rfl ?_
  refine zv_iconst X d_Law_law_706 ?_
  refine zv_iadd X d_Law_law_707 ?_
  refine zv_sld X hL d_Law_law_708 (fun ha708 hb708 => ?_)
  refine zv_saload_n X d_Law_law_709 rfl 0 rfl ?_
  refine zv_iload_n X d_Law_law_710 rfl 3 rfl ?_
  refine zv_iconst X d_Law_law_711 ?_
  refine zv_iadd X d_Law_law_712 ?_
  refine zv_sld X hL d_Law_law_713 (fun ha713 hb713 => ?_)
  refine zv_saload_n X d_Law_law_714 rfl 0 rfl ?_
  refine zv_iload_n X d_Law_law_715 rfl 3 rfl ?_
  refine zv_iconst X d_Law_law_716 ?_
  refine zv_iadd X d_Law_law_717 ?_
  refine zv_sld X hL d_Law_law_718 (fun ha718 hb718 => ?_)
  refine zv_saload_n X d_Law_law_719 rfl 0 rfl ?_
  refine zv_iload_n X d_Law_law_720 rfl 3 rfl ?_
  refine zv_iconst X d_Law_law_721 ?_
  refine zv_iadd X d_Law_law_722 ?_
  refine zv_sld X hL d_Law_law_723 (fun ha723 hb723 => ?_)
  refine zv_saload_n X d_Law_law_724 rfl 0 rfl ?_
  refine zv_iload_n X d_Law_law_725 rfl 3 rfl ?_
  refine zv_iconst X d_Law_law_726 ?_
  refine zv_iadd X d_Law_law_727 ?_
  refine zv_sld X hL d_Law_law_728 (fun ha728 hb728 => ?_)
  refine zv_saload_n X d_Law_law_729 rfl 0 rfl ?_
  refine zv_iload_n X d_Law_law_730 rfl 3 rfl ?_
  refine zv_bipush X d_Law_law_731 (by decide +kernel) ?_
  refine zv_iadd X d_Law_law_733 ?_
  refine zv_sld X hL d_Law_law_734 (fun ha734 hb734 => ?_)
  refine zv_cVM1 X (av := [zi (xz xs (v3 + 1)), zi (xz xs (v3 + 2)), zi (xz xs (v3 + 3)), zi (xz xs (v3 + 4)), zi (xz xs (v3 + 5)), zi (xz xs (v3 + 6))]) (st := [zi r1]) (ci := 7) (c_Model_shares Γ.2.1 X.2.2.2.2.2.2.2.1 hN (xz xs (v3 + 1)) (xz xs (v3 + 2)) (xz xs (v3 + 3)) (xz xs (v3 + 4)) (xz xs (v3 + 5)) (xz xs (v3 + 6)) D2) mk_Law_74 rfl (za_144 hN) ⟨rfl, rfl, Nat.le_of_ble_eq_true rfl, Nat.le_of_ble_eq_true rfl⟩ rfl (Nat.le_of_ble_eq_true rfl) d_Law_law_735 (fun r3 D4 hr3 => ?_)
  refine zv_icmp_eq X (tgt := 1316) d_Law_law_738 (by decide) (fun h738 => ?_) (fun h738 => ?_)
  · exact v_Law_law_1316 X hN hL v3 K10 D4 hK10
  · refine zv_iconst X d_Law_law_741 ?_
    exact zv_none
set_option maxRecDepth 100000 in
theorem v_Law_law_615 {Γ : Gt} {Z : Zt} (X : Cx Γ Z code R_law 4 (some .boolean) room_1) (hN : 166 ≤ Z.2.2.2.1) {b : Nat} {xs : Nat → Int32} {L : Nat} (hL : Lx Γ Z b L xs) (v3 : Int)  (K10 : Int → Mm → Option (Unit)) (D : Mm) (hK10 : ∀ (v3 : Int) (D : Mm), Zv Γ Z 4 (QfL Γ b) (K10 v3 D) D 18 [(0, Value.ref b), (1, zr Z 1), (2, zr Z 144), (3, zi v3)] []) : Zv Γ Z 4 (QfL Γ b) (f_Law_law_615 xs L v3 K10 D) D 615 [(0, Value.ref b), (1, zr Z 1), (2, zr Z 144), (3, zi v3)] [] := by
  unfold f_Law_law_615
  refine zv_aload_n X d_Law_law_615 rfl 1 rfl ?_
  refine zv_saload_n X d_Law_law_616 rfl 0 rfl ?_
  refine zv_iload_n X d_Law_law_617 rfl 3 rfl ?_
  refine zv_iconst X d_Law_law_618 ?_
  refine zv_iadd X d_Law_law_619 ?_
  refine zv_sld X hL d_Law_law_620 (fun ha620 hb620 => ?_)
  refine zv_saload_n X d_Law_law_621 rfl 0 rfl ?_
  refine zv_iload_n X d_Law_law_622 rfl 3 rfl ?_
  refine zv_iconst X d_Law_law_623 ?_
  refine zv_iadd X d_Law_law_624 ?_
  refine zv_sld X hL d_Law_law_625 (fun ha625 hb625 => ?_)
  refine zv_saload_n X d_Law_law_626 rfl 0 rfl ?_
  refine zv_iload_n X d_Law_law_627 rfl 3 rfl ?_
  refine zv_iconst X d_Law_law_628 ?_
  refine zv_iadd X d_Law_law_629 ?_
  refine zv_sld X hL d_Law_law_630 (fun ha630 hb630 => ?_)
  refine zv_saload_n X d_Law_law_631 rfl 0 rfl ?_
  refine zv_iload_n X d_Law_law_632 rfl 3 rfl ?_
  refine zv_iconst X d_Law_law_633 ?_
  refine zv_iadd X d_Law_law_634 ?_
  refine zv_sld X hL d_Law_law_635 (fun ha635 hb635 => ?_)
  refine zv_cVM1 X (av := [zi (xz xs (v3 + 1)), zi (xz xs (v3 + 2)), zi (xz xs (v3 + 3)), zi (xz xs (v3 + 4))]) (st := []) (ci := 6) (c_Main_most Γ.2.1 X.2.2.2.2.2.2.2.1 (Int.le_trans (by decide) hN) (xz xs (v3 + 1)) (xz xs (v3 + 2)) (xz xs (v3 + 3)) (xz xs (v3 + 4)) D) mk_Law_65 rfl (za_1 (Int.le_trans (by decide) hN)) ⟨rfl, rfl, Nat.le_of_ble_eq_true rfl, Nat.le_of_ble_eq_true rfl⟩ rfl (Nat.le_of_ble_eq_true rfl) d_Law_law_636 (fun r1 D2 hr1 => ?_)
  refine zv_aload_n X d_Law_law_639 rfl 2 rfl ?_
  refine zv_saload_n X d_Law_law_640 rfl 0 rfl ?_
  refine zv_iload_n X d_Law_law_641 rfl 3 rfl ?_
  refine zv_iconst X d_Law_law_642 ?_
  refine zv_iadd X d_Law_law_643 ?_
  refine zv_sld X hL d_Law_law_644 (fun ha644 hb644 => ?_)
  refine zv_saload_n X d_Law_law_645 rfl 0 rfl ?_
  refine zv_iload_n X d_Law_law_646 rfl 3 rfl ?_
  refine zv_iconst X d_Law_law_647 ?_
  refine zv_iadd X d_Law_law_648 ?_
  refine zv_sld X hL d_Law_law_649 (fun ha649 hb649 => ?_)
  refine zv_saload_n X d_Law_law_650 rfl 0 rfl ?_
  refine zv_iload_n X d_Law_law_651 rfl 3 rfl ?_
  refine zv_iconst X d_Law_law_652 ?_
  refine zv_iadd X d_Law_law_653 ?_
  refine zv_sld X hL d_Law_law_654 (fun ha654 hb654 => ?_)
  refine zv_saload_n X d_Law_law_655 rfl 0 rfl ?_
  refine zv_iload_n X d_Law_law_656 rfl 3 rfl ?_
  refine zv_iconst X d_Law_law_657 ?_
  refine zv_iadd X d_Law_law_658 ?_
  refine zv_sld X hL d_Law_law_659 (fun ha659 hb659 => ?_)
  refine zv_cVM1 X (av := [zi (xz xs (v3 + 1)), zi (xz xs (v3 + 2)), zi (xz xs (v3 + 3)), zi (xz xs (v3 + 4))]) (st := [zi r1]) (ci := 7) (c_Model_most Γ.2.1 X.2.2.2.2.2.2.2.1 hN (xz xs (v3 + 1)) (xz xs (v3 + 2)) (xz xs (v3 + 3)) (xz xs (v3 + 4)) D2) mk_Law_69 rfl (za_144 hN) ⟨rfl, rfl, Nat.le_of_ble_eq_true rfl, Nat.le_of_ble_eq_true rfl⟩ rfl (Nat.le_of_ble_eq_true rfl) d_Law_law_660 (fun r3 D4 hr3 => ?_)
  refine zv_icmp_eq X (tgt := 1316) d_Law_law_663 (by decide) (fun h663 => ?_) (fun h663 => ?_)
  · exact v_Law_law_1316 X hN hL v3 K10 D4 hK10
  · refine zv_iconst X d_Law_law_666 ?_
    exact zv_none
set_option maxRecDepth 100000 in
theorem v_Law_law_539 {Γ : Gt} {Z : Zt} (X : Cx Γ Z code R_law 4 (some .boolean) room_1) (hN : 166 ≤ Z.2.2.2.1) {b : Nat} {xs : Nat → Int32} {L : Nat} (hL : Lx Γ Z b L xs) (v3 : Int)  (K10 : Int → Mm → Option (Unit)) (D : Mm) (hK10 : ∀ (v3 : Int) (D : Mm), Zv Γ Z 4 (QfL Γ b) (K10 v3 D) D 18 [(0, Value.ref b), (1, zr Z 1), (2, zr Z 144), (3, zi v3)] []) : Zv Γ Z 4 (QfL Γ b) (f_Law_law_539 xs L v3 K10 D) D 539 [(0, Value.ref b), (1, zr Z 1), (2, zr Z 144), (3, zi v3)] [] := by
  unfold f_Law_law_539
  refine zv_aload_n X d_Law_law_539 rfl 1 rfl ?_
  refine zv_saload_n X d_Law_law_540 rfl 0 rfl ?_
  refine zv_iload_n X d_Law_law_541 rfl 3 rfl ?_
  refine zv_iconst X d_Law_law_542 ?_
  refine zv_iadd X d_Law_law_543 ?_
  refine zv_sld X hL d_Law_law_544 (fun ha544 hb544 => ?_)
  refine zv_saload_n X d_Law_law_545 rfl 0 rfl ?_
  refine zv_iload_n X d_Law_law_546 rfl 3 rfl ?_
  refine zv_iconst X d_Law_law_547 ?_
  refine zv_iadd X d_Law_law_548 ?_
  refine zv_sld X hL d_Law_law_549 (fun ha549 hb549 => ?_)
  refine zv_saload_n X d_Law_law_550 rfl 0 rfl ?_
  refine zv_iload_n X d_Law_law_551 rfl 3 rfl ?_
  refine zv_iconst X d_Law_law_552 ?_
  refine zv_iadd X d_Law_law_553 ?_
  refine zv_sld X hL d_Law_law_554 (fun ha554 hb554 => ?_)
  refine zv_saload_n X d_Law_law_555 rfl 0 rfl ?_
  refine zv_iload_n X d_Law_law_556 rfl 3 rfl ?_
  refine zv_iconst X d_Law_law_557 ?_
  refine zv_iadd X d_Law_law_558 ?_
  refine zv_sld X hL d_Law_law_559 (fun ha559 hb559 => ?_)
  refine zv_saload_n X d_Law_law_560 rfl 0 rfl ?_
  refine zv_iload_n X d_Law_law_561 rfl 3 rfl ?_
  refine zv_iconst X d_Law_law_562 ?_
  refine zv_iadd X d_Law_law_563 ?_
  refine zv_sld X hL d_Law_law_564 (fun ha564 hb564 => ?_)
  refine zv_saload_n X d_Law_law_565 rfl 0 rfl ?_
  refine zv_iload_n X d_Law_law_566 rfl 3 rfl ?_
  refine zv_bipush X d_Law_law_567 (by decide +kernel) ?_
  refine zv_iadd X d_Law_law_569 ?_
  refine zv_sld X hL d_Law_law_570 (fun ha570 hb570 => ?_)
  refine zv_cVM2 X (av := [zi (xz xs (v3 + 1)), zi (xz xs (v3 + 2)), zi (xz xs (v3 + 3)), zi (xz xs (v3 + 4)), zi (xz xs (v3 + 5)), zi (xz xs (v3 + 6))]) (st := []) (ci := 6) (c_Main_heap Γ.2.1 X.2.2.2.2.2.2.2.1 (Int.le_trans (by decide) hN) (xz xs (v3 + 1)) (xz xs (v3 + 2)) (xz xs (v3 + 3)) (xz xs (v3 + 4)) (xz xs (v3 + 5)) (xz xs (v3 + 6)) D) mk_Law_60 rfl (za_1 (Int.le_trans (by decide) hN)) ⟨rfl, rfl, Nat.le_of_ble_eq_true rfl, Nat.le_of_ble_eq_true rfl⟩ rfl (Nat.le_of_ble_eq_true rfl) d_Law_law_571 (fun r1 D2 hr1 => ?_)
  refine zv_aload_n X d_Law_law_574 rfl 2 rfl ?_
  refine zv_saload_n X d_Law_law_575 rfl 0 rfl ?_
  refine zv_iload_n X d_Law_law_576 rfl 3 rfl ?_
  refine zv_iconst X d_Law_law_577 ?_
  refine zv_iadd X d_Law_law_578 ?_
  refine zv_sld X hL d_Law_law_579 (fun ha579 hb579 => ?_)
  refine zv_saload_n X d_Law_law_580 rfl 0 rfl ?_
  refine zv_iload_n X d_Law_law_581 rfl 3 rfl ?_
  refine zv_iconst X d_Law_law_582 ?_
  refine zv_iadd X d_Law_law_583 ?_
  refine zv_sld X hL d_Law_law_584 (fun ha584 hb584 => ?_)
  refine zv_saload_n X d_Law_law_585 rfl 0 rfl ?_
  refine zv_iload_n X d_Law_law_586 rfl 3 rfl ?_
  refine zv_iconst X d_Law_law_587 ?_
  refine zv_iadd X d_Law_law_588 ?_
  refine zv_sld X hL d_Law_law_589 (fun ha589 hb589 => ?_)
  refine zv_saload_n X d_Law_law_590 rfl 0 rfl ?_
  refine zv_iload_n X d_Law_law_591 rfl 3 rfl ?_
  refine zv_iconst X d_Law_law_592 ?_
  refine zv_iadd X d_Law_law_593 ?_
  refine zv_sld X hL d_Law_law_594 (fun ha594 hb594 => ?_)
  refine zv_saload_n X d_Law_law_595 rfl 0 rfl ?_
  refine zv_iload_n X d_Law_law_596 rfl 3 rfl ?_
  refine zv_iconst X d_Law_law_597 ?_
  refine zv_iadd X d_Law_law_598 ?_
  refine zv_sld X hL d_Law_law_599 (fun ha599 hb599 => ?_)
  refine zv_saload_n X d_Law_law_600 rfl 0 rfl ?_
  refine zv_iload_n X d_Law_law_601 rfl 3 rfl ?_
  refine zv_bipush X d_Law_law_602 (by decide +kernel) ?_
  refine zv_iadd X d_Law_law_604 ?_
  refine zv_sld X hL d_Law_law_605 (fun ha605 hb605 => ?_)
  refine zv_cVM2 X (av := [zi (xz xs (v3 + 1)), zi (xz xs (v3 + 2)), zi (xz xs (v3 + 3)), zi (xz xs (v3 + 4)), zi (xz xs (v3 + 5)), zi (xz xs (v3 + 6))]) (st := [zl r1]) (ci := 7) (c_Model_heap Γ.2.1 X.2.2.2.2.2.2.2.1 hN (xz xs (v3 + 1)) (xz xs (v3 + 2)) (xz xs (v3 + 3)) (xz xs (v3 + 4)) (xz xs (v3 + 5)) (xz xs (v3 + 6)) D2) mk_Law_64 rfl (za_144 hN) ⟨rfl, rfl, Nat.le_of_ble_eq_true rfl, Nat.le_of_ble_eq_true rfl⟩ rfl (Nat.le_of_ble_eq_true rfl) d_Law_law_606 (fun r3 D4 hr3 => ?_)
  refine zv_lcmp_eq X (tgt := 1316) d_Law_law_609 d_Law_law_610 (by decide) (fun h609 => ?_) (fun h609 => ?_)
  · exact v_Law_law_1316 X hN hL v3 K10 D4 hK10
  · refine zv_iconst X d_Law_law_613 ?_
    exact zv_none
set_option maxRecDepth 100000 in
theorem v_Law_law_496 {Γ : Gt} {Z : Zt} (X : Cx Γ Z code R_law 4 (some .boolean) room_1) (hN : 166 ≤ Z.2.2.2.1) {b : Nat} {xs : Nat → Int32} {L : Nat} (hL : Lx Γ Z b L xs) (v3 : Int)  (K10 : Int → Mm → Option (Unit)) (D : Mm) (hK10 : ∀ (v3 : Int) (D : Mm), Zv Γ Z 4 (QfL Γ b) (K10 v3 D) D 18 [(0, Value.ref b), (1, zr Z 1), (2, zr Z 144), (3, zi v3)] []) : Zv Γ Z 4 (QfL Γ b) (f_Law_law_496 xs L v3 K10 D) D 496 [(0, Value.ref b), (1, zr Z 1), (2, zr Z 144), (3, zi v3)] [] := by
  unfold f_Law_law_496
  refine zv_aload_n X d_Law_law_496 rfl 1 rfl ?_
  refine zv_saload_n X d_Law_law_497 rfl 0 rfl ?_
  refine zv_iload_n X d_Law_law_498 rfl 3 rfl ?_
  refine zv_iconst X d_Law_law_499 ?_
  refine zv_iadd X d_Law_law_500 ?_
  refine zv_sld X hL d_Law_law_501 (fun ha501 hb501 => ?_)
  refine zv_saload_n X d_Law_law_502 rfl 0 rfl ?_
  refine zv_iload_n X d_Law_law_503 rfl 3 rfl ?_
  refine zv_iconst X d_Law_law_504 ?_
  refine zv_iadd X d_Law_law_505 ?_
  refine zv_sld X hL d_Law_law_506 (fun ha506 hb506 => ?_)
  refine zv_saload_n X d_Law_law_507 rfl 0 rfl ?_
  refine zv_iload_n X d_Law_law_508 rfl 3 rfl ?_
  refine zv_iconst X d_Law_law_509 ?_
  refine zv_iadd X d_Law_law_510 ?_
  refine zv_sld X hL d_Law_law_511 (fun ha511 hb511 => ?_)
  refine zv_cVP1 X (av := [zi (xz xs (v3 + 1)), zi (xz xs (v3 + 2)), zi (xz xs (v3 + 3))]) (st := []) (ci := 6) (c_Main_controls Γ.2.1 X.2.2.2.2.2.2.2.1 (Int.le_trans (by decide) hN) (xz xs (v3 + 1)) (xz xs (v3 + 2)) (xz xs (v3 + 3)) D) mk_Law_56 rfl (za_1 (Int.le_trans (by decide) hN)) ⟨rfl, rfl, Nat.le_of_ble_eq_true rfl, Nat.le_of_ble_eq_true rfl⟩ rfl (Nat.le_of_ble_eq_true rfl) d_Law_law_512 (fun r1 hr1 => ?_)
  refine zv_aload_n X d_Law_law_515 rfl 2 rfl ?_
  refine zv_saload_n X d_Law_law_516 rfl 0 rfl ?_
  refine zv_iload_n X d_Law_law_517 rfl 3 rfl ?_
  refine zv_iconst X d_Law_law_518 ?_
  refine zv_iadd X d_Law_law_519 ?_
  refine zv_sld X hL d_Law_law_520 (fun ha520 hb520 => ?_)
  refine zv_saload_n X d_Law_law_521 rfl 0 rfl ?_
  refine zv_iload_n X d_Law_law_522 rfl 3 rfl ?_
  refine zv_iconst X d_Law_law_523 ?_
  refine zv_iadd X d_Law_law_524 ?_
  refine zv_sld X hL d_Law_law_525 (fun ha525 hb525 => ?_)
  refine zv_saload_n X d_Law_law_526 rfl 0 rfl ?_
  refine zv_iload_n X d_Law_law_527 rfl 3 rfl ?_
  refine zv_iconst X d_Law_law_528 ?_
  refine zv_iadd X d_Law_law_529 ?_
  refine zv_sld X hL d_Law_law_530 (fun ha530 hb530 => ?_)
  refine zv_cVP1 X (av := [zi (xz xs (v3 + 1)), zi (xz xs (v3 + 2)), zi (xz xs (v3 + 3))]) (st := [zi r1]) (ci := 7) (c_Model_controls Γ.2.1 X.2.2.2.2.2.2.2.1 hN (xz xs (v3 + 1)) (xz xs (v3 + 2)) (xz xs (v3 + 3)) D) mk_Law_59 rfl (za_144 hN) ⟨rfl, rfl, Nat.le_of_ble_eq_true rfl, Nat.le_of_ble_eq_true rfl⟩ rfl (Nat.le_of_ble_eq_true rfl) d_Law_law_531 (fun r2 hr2 => ?_)
  refine zv_icmp_eq X (tgt := 1316) d_Law_law_534 (by decide) (fun h534 => ?_) (fun h534 => ?_)
  · exact v_Law_law_1316 X hN hL v3 K10 D hK10
  · refine zv_iconst X d_Law_law_537 ?_
    exact zv_none
set_option maxRecDepth 100000 in
theorem v_Law_law_453 {Γ : Gt} {Z : Zt} (X : Cx Γ Z code R_law 4 (some .boolean) room_1) (hN : 166 ≤ Z.2.2.2.1) {b : Nat} {xs : Nat → Int32} {L : Nat} (hL : Lx Γ Z b L xs) (v3 : Int)  (K10 : Int → Mm → Option (Unit)) (D : Mm) (hK10 : ∀ (v3 : Int) (D : Mm), Zv Γ Z 4 (QfL Γ b) (K10 v3 D) D 18 [(0, Value.ref b), (1, zr Z 1), (2, zr Z 144), (3, zi v3)] []) : Zv Γ Z 4 (QfL Γ b) (f_Law_law_453 xs L v3 K10 D) D 453 [(0, Value.ref b), (1, zr Z 1), (2, zr Z 144), (3, zi v3)] [] := by
  unfold f_Law_law_453
  refine zv_aload_n X d_Law_law_453 rfl 1 rfl ?_
  refine zv_saload_n X d_Law_law_454 rfl 0 rfl ?_
  refine zv_iload_n X d_Law_law_455 rfl 3 rfl ?_
  refine zv_iconst X d_Law_law_456 ?_
  refine zv_iadd X d_Law_law_457 ?_
  refine zv_sld X hL d_Law_law_458 (fun ha458 hb458 => ?_)
  refine zv_saload_n X d_Law_law_459 rfl 0 rfl ?_
  refine zv_iload_n X d_Law_law_460 rfl 3 rfl ?_
  refine zv_iconst X d_Law_law_461 ?_
  refine zv_iadd X d_Law_law_462 ?_
  refine zv_sld X hL d_Law_law_463 (fun ha463 hb463 => ?_)
  refine zv_saload_n X d_Law_law_464 rfl 0 rfl ?_
  refine zv_iload_n X d_Law_law_465 rfl 3 rfl ?_
  refine zv_iconst X d_Law_law_466 ?_
  refine zv_iadd X d_Law_law_467 ?_
  refine zv_sld X hL d_Law_law_468 (fun ha468 hb468 => ?_)
  refine zv_cVP1 X (av := [zi (xz xs (v3 + 1)), zi (xz xs (v3 + 2)), zi (xz xs (v3 + 3))]) (st := []) (ci := 6) (c_Main_says Γ.2.1 X.2.2.2.2.2.2.2.1 (Int.le_trans (by decide) hN) (xz xs (v3 + 1)) (xz xs (v3 + 2)) (xz xs (v3 + 3)) D) mk_Law_52 rfl (za_1 (Int.le_trans (by decide) hN)) ⟨rfl, rfl, Nat.le_of_ble_eq_true rfl, Nat.le_of_ble_eq_true rfl⟩ rfl (Nat.le_of_ble_eq_true rfl) d_Law_law_469 (fun r1 hr1 => ?_)
  refine zv_aload_n X d_Law_law_472 rfl 2 rfl ?_
  refine zv_saload_n X d_Law_law_473 rfl 0 rfl ?_
  refine zv_iload_n X d_Law_law_474 rfl 3 rfl ?_
  refine zv_iconst X d_Law_law_475 ?_
  refine zv_iadd X d_Law_law_476 ?_
  refine zv_sld X hL d_Law_law_477 (fun ha477 hb477 => ?_)
  refine zv_saload_n X d_Law_law_478 rfl 0 rfl ?_
  refine zv_iload_n X d_Law_law_479 rfl 3 rfl ?_
  refine zv_iconst X d_Law_law_480 ?_
  refine zv_iadd X d_Law_law_481 ?_
  refine zv_sld X hL d_Law_law_482 (fun ha482 hb482 => ?_)
  refine zv_saload_n X d_Law_law_483 rfl 0 rfl ?_
  refine zv_iload_n X d_Law_law_484 rfl 3 rfl ?_
  refine zv_iconst X d_Law_law_485 ?_
  refine zv_iadd X d_Law_law_486 ?_
  refine zv_sld X hL d_Law_law_487 (fun ha487 hb487 => ?_)
  refine zv_cVP1 X (av := [zi (xz xs (v3 + 1)), zi (xz xs (v3 + 2)), zi (xz xs (v3 + 3))]) (st := [zi r1]) (ci := 7) (c_Model_says Γ.2.1 X.2.2.2.2.2.2.2.1 hN (xz xs (v3 + 1)) (xz xs (v3 + 2)) (xz xs (v3 + 3)) D) mk_Law_55 rfl (za_144 hN) ⟨rfl, rfl, Nat.le_of_ble_eq_true rfl, Nat.le_of_ble_eq_true rfl⟩ rfl (Nat.le_of_ble_eq_true rfl) d_Law_law_488 (fun r2 hr2 => ?_)
  refine zv_icmp_eq X (tgt := 1316) d_Law_law_491 (by decide) (fun h491 => ?_) (fun h491 => ?_)
  · exact v_Law_law_1316 X hN hL v3 K10 D hK10
  · refine zv_iconst X d_Law_law_494 ?_
    exact zv_none
set_option maxRecDepth 100000 in
theorem v_Law_law_389 {Γ : Gt} {Z : Zt} (X : Cx Γ Z code R_law 4 (some .boolean) room_1) (hN : 166 ≤ Z.2.2.2.1) {b : Nat} {xs : Nat → Int32} {L : Nat} (hL : Lx Γ Z b L xs) (v3 : Int)  (K10 : Int → Mm → Option (Unit)) (D : Mm) (hK10 : ∀ (v3 : Int) (D : Mm), Zv Γ Z 4 (QfL Γ b) (K10 v3 D) D 18 [(0, Value.ref b), (1, zr Z 1), (2, zr Z 144), (3, zi v3)] []) : Zv Γ Z 4 (QfL Γ b) (f_Law_law_389 xs L v3 K10 D) D 389 [(0, Value.ref b), (1, zr Z 1), (2, zr Z 144), (3, zi v3)] [] := by
  unfold f_Law_law_389
  refine zv_aload_n X d_Law_law_389 rfl 1 rfl ?_
  refine zv_saload_n X d_Law_law_390 rfl 0 rfl ?_
  refine zv_iload_n X d_Law_law_391 rfl 3 rfl ?_
  refine zv_iconst X d_Law_law_392 ?_
  refine zv_iadd X d_Law_law_393 ?_
  refine zv_sld X hL d_Law_law_394 (fun ha394 hb394 => ?_)
  refine zv_saload_n X d_Law_law_395 rfl 0 rfl ?_
  refine zv_iload_n X d_Law_law_396 rfl 3 rfl ?_
  refine zv_iconst X d_Law_law_397 ?_
  refine zv_iadd X d_Law_law_398 ?_
  refine zv_sld X hL d_Law_law_399 (fun ha399 hb399 => ?_)
  refine zv_saload_n X d_Law_law_400 rfl 0 rfl ?_
  refine zv_iload_n X d_Law_law_401 rfl 3 rfl ?_
  refine zv_iconst X d_Law_law_402 ?_
  refine zv_iadd X d_Law_law_403 ?_
  refine zv_sld X hL d_Law_law_404 (fun ha404 hb404 => ?_)
  refine zv_saload_n X d_Law_law_405 rfl 0 rfl ?_
  refine zv_iload_n X d_Law_law_406 rfl 3 rfl ?_
  refine zv_iconst X d_Law_law_407 ?_
  refine zv_iadd X d_Law_law_408 ?_
  refine zv_sld X hL d_Law_law_409 (fun ha409 hb409 => ?_)
  refine zv_saload_n X d_Law_law_410 rfl 0 rfl ?_
  refine zv_iload_n X d_Law_law_411 rfl 3 rfl ?_
  refine zv_iconst X d_Law_law_412 ?_
  refine zv_iadd X d_Law_law_413 ?_
  refine zv_sld X hL d_Law_law_414 (fun ha414 hb414 => ?_)
  refine zv_cVP2 X (av := [zi (xz xs (v3 + 1)), zi (xz xs (v3 + 2)), zi (xz xs (v3 + 3)), zi (xz xs (v3 + 4)), zi (xz xs (v3 + 5))]) (st := []) (ci := 6) (c_Main_more Γ.2.1 X.2.2.2.2.2.2.2.1 (Int.le_trans (by decide) hN) (xz xs (v3 + 1)) (xz xs (v3 + 2)) (xz xs (v3 + 3)) (xz xs (v3 + 4)) (xz xs (v3 + 5)) D) mk_Law_47 rfl (za_1 (Int.le_trans (by decide) hN)) ⟨rfl, rfl, Nat.le_of_ble_eq_true rfl, Nat.le_of_ble_eq_true rfl⟩ rfl (Nat.le_of_ble_eq_true rfl) d_Law_law_415 (fun r1 hr1 => ?_)
  refine zv_aload_n X d_Law_law_418 rfl 2 rfl ?_
  refine zv_saload_n X d_Law_law_419 rfl 0 rfl ?_
  refine zv_iload_n X d_Law_law_420 rfl 3 rfl ?_
  refine zv_iconst X d_Law_law_421 ?_
  refine zv_iadd X d_Law_law_422 ?_
  refine zv_sld X hL d_Law_law_423 (fun ha423 hb423 => ?_)
  refine zv_saload_n X d_Law_law_424 rfl 0 rfl ?_
  refine zv_iload_n X d_Law_law_425 rfl 3 rfl ?_
  refine zv_iconst X d_Law_law_426 ?_
  refine zv_iadd X d_Law_law_427 ?_
  refine zv_sld X hL d_Law_law_428 (fun ha428 hb428 => ?_)
  refine zv_saload_n X d_Law_law_429 rfl 0 rfl ?_
  refine zv_iload_n X d_Law_law_430 rfl 3 rfl ?_
  refine zv_iconst X d_Law_law_431 ?_
  refine zv_iadd X d_Law_law_432 ?_
  refine zv_sld X hL d_Law_law_433 (fun ha433 hb433 => ?_)
  refine zv_saload_n X d_Law_law_434 rfl 0 rfl ?_
  refine zv_iload_n X d_Law_law_435 rfl 3 rfl ?_
  refine zv_iconst X d_Law_law_436 ?_
  refine zv_iadd X d_Law_law_437 ?_
  refine zv_sld X hL d_Law_law_438 (fun ha438 hb438 => ?_)
  refine zv_saload_n X d_Law_law_439 rfl 0 rfl ?_
  refine zv_iload_n X d_Law_law_440 rfl 3 rfl ?_
  refine zv_iconst X d_Law_law_441 ?_
  refine zv_iadd X d_Law_law_442 ?_
  refine zv_sld X hL d_Law_law_443 (fun ha443 hb443 => ?_)
  refine zv_cVP2 X (av := [zi (xz xs (v3 + 1)), zi (xz xs (v3 + 2)), zi (xz xs (v3 + 3)), zi (xz xs (v3 + 4)), zi (xz xs (v3 + 5))]) (st := [zl r1]) (ci := 7) (c_Model_more Γ.2.1 X.2.2.2.2.2.2.2.1 hN (xz xs (v3 + 1)) (xz xs (v3 + 2)) (xz xs (v3 + 3)) (xz xs (v3 + 4)) (xz xs (v3 + 5)) D) mk_Law_51 rfl (za_144 hN) ⟨rfl, rfl, Nat.le_of_ble_eq_true rfl, Nat.le_of_ble_eq_true rfl⟩ rfl (Nat.le_of_ble_eq_true rfl) d_Law_law_444 (fun r2 hr2 => ?_)
  refine zv_lcmp_eq X (tgt := 1316) d_Law_law_447 d_Law_law_448 (by decide) (fun h447 => ?_) (fun h447 => ?_)
  · exact v_Law_law_1316 X hN hL v3 K10 D hK10
  · refine zv_iconst X d_Law_law_451 ?_
    exact zv_none
set_option maxRecDepth 100000 in
theorem v_Law_law_346 {Γ : Gt} {Z : Zt} (X : Cx Γ Z code R_law 4 (some .boolean) room_1) (hN : 166 ≤ Z.2.2.2.1) {b : Nat} {xs : Nat → Int32} {L : Nat} (hL : Lx Γ Z b L xs) (v3 : Int)  (K10 : Int → Mm → Option (Unit)) (D : Mm) (hK10 : ∀ (v3 : Int) (D : Mm), Zv Γ Z 4 (QfL Γ b) (K10 v3 D) D 18 [(0, Value.ref b), (1, zr Z 1), (2, zr Z 144), (3, zi v3)] []) : Zv Γ Z 4 (QfL Γ b) (f_Law_law_346 xs L v3 K10 D) D 346 [(0, Value.ref b), (1, zr Z 1), (2, zr Z 144), (3, zi v3)] [] := by
  unfold f_Law_law_346
  refine zv_aload_n X d_Law_law_346 rfl 1 rfl ?_
  refine zv_saload_n X d_Law_law_347 rfl 0 rfl ?_
  refine zv_iload_n X d_Law_law_348 rfl 3 rfl ?_
  refine zv_iconst X d_Law_law_349 ?_
  refine zv_iadd X d_Law_law_350 ?_
  refine zv_sld X hL d_Law_law_351 (fun ha351 hb351 => ?_)
  refine zv_saload_n X d_Law_law_352 rfl 0 rfl ?_
  refine zv_iload_n X d_Law_law_353 rfl 3 rfl ?_
  refine zv_iconst X d_Law_law_354 ?_
  refine zv_iadd X d_Law_law_355 ?_
  refine zv_sld X hL d_Law_law_356 (fun ha356 hb356 => ?_)
  refine zv_saload_n X d_Law_law_357 rfl 0 rfl ?_
  refine zv_iload_n X d_Law_law_358 rfl 3 rfl ?_
  refine zv_iconst X d_Law_law_359 ?_
  refine zv_iadd X d_Law_law_360 ?_
  refine zv_sld X hL d_Law_law_361 (fun ha361 hb361 => ?_)
  refine zv_cVP1 X (av := [zi (xz xs (v3 + 1)), zi (xz xs (v3 + 2)), zi (xz xs (v3 + 3))]) (st := []) (ci := 6) (c_Main_read Γ.2.1 X.2.2.2.2.2.2.2.1 (Int.le_trans (by decide) hN) (xz xs (v3 + 1)) (xz xs (v3 + 2)) (xz xs (v3 + 3)) D) mk_Law_43 rfl (za_1 (Int.le_trans (by decide) hN)) ⟨rfl, rfl, Nat.le_of_ble_eq_true rfl, Nat.le_of_ble_eq_true rfl⟩ rfl (Nat.le_of_ble_eq_true rfl) d_Law_law_362 (fun r1 hr1 => ?_)
  refine zv_aload_n X d_Law_law_365 rfl 2 rfl ?_
  refine zv_saload_n X d_Law_law_366 rfl 0 rfl ?_
  refine zv_iload_n X d_Law_law_367 rfl 3 rfl ?_
  refine zv_iconst X d_Law_law_368 ?_
  refine zv_iadd X d_Law_law_369 ?_
  refine zv_sld X hL d_Law_law_370 (fun ha370 hb370 => ?_)
  refine zv_saload_n X d_Law_law_371 rfl 0 rfl ?_
  refine zv_iload_n X d_Law_law_372 rfl 3 rfl ?_
  refine zv_iconst X d_Law_law_373 ?_
  refine zv_iadd X d_Law_law_374 ?_
  refine zv_sld X hL d_Law_law_375 (fun ha375 hb375 => ?_)
  refine zv_saload_n X d_Law_law_376 rfl 0 rfl ?_
  refine zv_iload_n X d_Law_law_377 rfl 3 rfl ?_
  refine zv_iconst X d_Law_law_378 ?_
  refine zv_iadd X d_Law_law_379 ?_
  refine zv_sld X hL d_Law_law_380 (fun ha380 hb380 => ?_)
  refine zv_cVP1 X (av := [zi (xz xs (v3 + 1)), zi (xz xs (v3 + 2)), zi (xz xs (v3 + 3))]) (st := [zi r1]) (ci := 7) (c_Model_read Γ.2.1 X.2.2.2.2.2.2.2.1 hN (xz xs (v3 + 1)) (xz xs (v3 + 2)) (xz xs (v3 + 3)) D) mk_Law_46 rfl (za_144 hN) ⟨rfl, rfl, Nat.le_of_ble_eq_true rfl, Nat.le_of_ble_eq_true rfl⟩ rfl (Nat.le_of_ble_eq_true rfl) d_Law_law_381 (fun r2 hr2 => ?_)
  refine zv_icmp_eq X (tgt := 1316) d_Law_law_384 (by decide) (fun h384 => ?_) (fun h384 => ?_)
  · exact v_Law_law_1316 X hN hL v3 K10 D hK10
  · refine zv_iconst X d_Law_law_387 ?_
    exact zv_none
set_option maxRecDepth 100000 in
theorem v_Law_law_303 {Γ : Gt} {Z : Zt} (X : Cx Γ Z code R_law 4 (some .boolean) room_1) (hN : 166 ≤ Z.2.2.2.1) {b : Nat} {xs : Nat → Int32} {L : Nat} (hL : Lx Γ Z b L xs) (v3 : Int)  (K10 : Int → Mm → Option (Unit)) (D : Mm) (hK10 : ∀ (v3 : Int) (D : Mm), Zv Γ Z 4 (QfL Γ b) (K10 v3 D) D 18 [(0, Value.ref b), (1, zr Z 1), (2, zr Z 144), (3, zi v3)] []) : Zv Γ Z 4 (QfL Γ b) (f_Law_law_303 xs L v3 K10 D) D 303 [(0, Value.ref b), (1, zr Z 1), (2, zr Z 144), (3, zi v3)] [] := by
  unfold f_Law_law_303
  refine zv_aload_n X d_Law_law_303 rfl 1 rfl ?_
  refine zv_saload_n X d_Law_law_304 rfl 0 rfl ?_
  refine zv_iload_n X d_Law_law_305 rfl 3 rfl ?_
  refine zv_iconst X d_Law_law_306 ?_
  refine zv_iadd X d_Law_law_307 ?_
  refine zv_sld X hL d_Law_law_308 (fun ha308 hb308 => ?_)
  refine zv_saload_n X d_Law_law_309 rfl 0 rfl ?_
  refine zv_iload_n X d_Law_law_310 rfl 3 rfl ?_
  refine zv_iconst X d_Law_law_311 ?_
  refine zv_iadd X d_Law_law_312 ?_
  refine zv_sld X hL d_Law_law_313 (fun ha313 hb313 => ?_)
  refine zv_saload_n X d_Law_law_314 rfl 0 rfl ?_
  refine zv_iload_n X d_Law_law_315 rfl 3 rfl ?_
  refine zv_iconst X d_Law_law_316 ?_
  refine zv_iadd X d_Law_law_317 ?_
  refine zv_sld X hL d_Law_law_318 (fun ha318 hb318 => ?_)
  refine zv_cVP1 X (av := [zi (xz xs (v3 + 1)), zi (xz xs (v3 + 2)), zi (xz xs (v3 + 3))]) (st := []) (ci := 6) (c_Main_lies Γ.2.1 X.2.2.2.2.2.2.2.1 (Int.le_trans (by decide) hN) (xz xs (v3 + 1)) (xz xs (v3 + 2)) (xz xs (v3 + 3)) D) mk_Law_38 rfl (za_1 (Int.le_trans (by decide) hN)) ⟨rfl, rfl, Nat.le_of_ble_eq_true rfl, Nat.le_of_ble_eq_true rfl⟩ rfl (Nat.le_of_ble_eq_true rfl) d_Law_law_319 (fun r1 hr1 => ?_)
  refine zv_aload_n X d_Law_law_322 rfl 2 rfl ?_
  refine zv_saload_n X d_Law_law_323 rfl 0 rfl ?_
  refine zv_iload_n X d_Law_law_324 rfl 3 rfl ?_
  refine zv_iconst X d_Law_law_325 ?_
  refine zv_iadd X d_Law_law_326 ?_
  refine zv_sld X hL d_Law_law_327 (fun ha327 hb327 => ?_)
  refine zv_saload_n X d_Law_law_328 rfl 0 rfl ?_
  refine zv_iload_n X d_Law_law_329 rfl 3 rfl ?_
  refine zv_iconst X d_Law_law_330 ?_
  refine zv_iadd X d_Law_law_331 ?_
  refine zv_sld X hL d_Law_law_332 (fun ha332 hb332 => ?_)
  refine zv_saload_n X d_Law_law_333 rfl 0 rfl ?_
  refine zv_iload_n X d_Law_law_334 rfl 3 rfl ?_
  refine zv_iconst X d_Law_law_335 ?_
  refine zv_iadd X d_Law_law_336 ?_
  refine zv_sld X hL d_Law_law_337 (fun ha337 hb337 => ?_)
  refine zv_cVP1 X (av := [zi (xz xs (v3 + 1)), zi (xz xs (v3 + 2)), zi (xz xs (v3 + 3))]) (st := [zi r1]) (ci := 7) (c_Model_lies Γ.2.1 X.2.2.2.2.2.2.2.1 hN (xz xs (v3 + 1)) (xz xs (v3 + 2)) (xz xs (v3 + 3)) D) mk_Law_42 rfl (za_144 hN) ⟨rfl, rfl, Nat.le_of_ble_eq_true rfl, Nat.le_of_ble_eq_true rfl⟩ rfl (Nat.le_of_ble_eq_true rfl) d_Law_law_338 (fun r2 hr2 => ?_)
  refine zv_icmp_eq X (tgt := 1316) d_Law_law_341 (by decide) (fun h341 => ?_) (fun h341 => ?_)
  · exact v_Law_law_1316 X hN hL v3 K10 D hK10
  · refine zv_iconst X d_Law_law_344 ?_
    exact zv_none
set_option maxRecDepth 100000 in
theorem v_Law_law_270 {Γ : Gt} {Z : Zt} (X : Cx Γ Z code R_law 4 (some .boolean) room_1) (hN : 166 ≤ Z.2.2.2.1) {b : Nat} {xs : Nat → Int32} {L : Nat} (hL : Lx Γ Z b L xs) (v3 : Int)  (K10 : Int → Mm → Option (Unit)) (D : Mm) (hK10 : ∀ (v3 : Int) (D : Mm), Zv Γ Z 4 (QfL Γ b) (K10 v3 D) D 18 [(0, Value.ref b), (1, zr Z 1), (2, zr Z 144), (3, zi v3)] []) : Zv Γ Z 4 (QfL Γ b) (f_Law_law_270 xs L v3 K10 D) D 270 [(0, Value.ref b), (1, zr Z 1), (2, zr Z 144), (3, zi v3)] [] := by
  unfold f_Law_law_270
  refine zv_aload_n X d_Law_law_270 rfl 1 rfl ?_
  refine zv_saload_n X d_Law_law_271 rfl 0 rfl ?_
  refine zv_iload_n X d_Law_law_272 rfl 3 rfl ?_
  refine zv_iconst X d_Law_law_273 ?_
  refine zv_iadd X d_Law_law_274 ?_
  refine zv_sld X hL d_Law_law_275 (fun ha275 hb275 => ?_)
  refine zv_saload_n X d_Law_law_276 rfl 0 rfl ?_
  refine zv_iload_n X d_Law_law_277 rfl 3 rfl ?_
  refine zv_iconst X d_Law_law_278 ?_
  refine zv_iadd X d_Law_law_279 ?_
  refine zv_sld X hL d_Law_law_280 (fun ha280 hb280 => ?_)
  refine zv_cVP1 X (av := [zi (xz xs (v3 + 1)), zi (xz xs (v3 + 2))]) (st := []) (ci := 6) (c_Main_face Γ.2.1 X.2.2.2.2.2.2.2.1 (Int.le_trans (by decide) hN) (xz xs (v3 + 1)) (xz xs (v3 + 2)) D) mk_Law_33 rfl (za_1 (Int.le_trans (by decide) hN)) ⟨rfl, rfl, Nat.le_of_ble_eq_true rfl, Nat.le_of_ble_eq_true rfl⟩ rfl (Nat.le_of_ble_eq_true rfl) d_Law_law_281 (fun r1 hr1 => ?_)
  refine zv_aload_n X d_Law_law_284 rfl 2 rfl ?_
  refine zv_saload_n X d_Law_law_285 rfl 0 rfl ?_
  refine zv_iload_n X d_Law_law_286 rfl 3 rfl ?_
  refine zv_iconst X d_Law_law_287 ?_
  refine zv_iadd X d_Law_law_288 ?_
  refine zv_sld X hL d_Law_law_289 (fun ha289 hb289 => ?_)
  refine zv_saload_n X d_Law_law_290 rfl 0 rfl ?_
  refine zv_iload_n X d_Law_law_291 rfl 3 rfl ?_
  refine zv_iconst X d_Law_law_292 ?_
  refine zv_iadd X d_Law_law_293 ?_
  refine zv_sld X hL d_Law_law_294 (fun ha294 hb294 => ?_)
  refine zv_cVP1 X (av := [zi (xz xs (v3 + 1)), zi (xz xs (v3 + 2))]) (st := [zi r1]) (ci := 7) (c_Model_face Γ.2.1 X.2.2.2.2.2.2.2.1 hN (xz xs (v3 + 1)) (xz xs (v3 + 2)) D) mk_Law_37 rfl (za_144 hN) ⟨rfl, rfl, Nat.le_of_ble_eq_true rfl, Nat.le_of_ble_eq_true rfl⟩ rfl (Nat.le_of_ble_eq_true rfl) d_Law_law_295 (fun r2 hr2 => ?_)
  refine zv_icmp_eq X (tgt := 1316) d_Law_law_298 (by decide) (fun h298 => ?_) (fun h298 => ?_)
  · exact v_Law_law_1316 X hN hL v3 K10 D hK10
  · refine zv_iconst X d_Law_law_301 ?_
    exact zv_none
set_option maxRecDepth 100000 in
theorem v_Law_law_257 {Γ : Gt} {Z : Zt} (X : Cx Γ Z code R_law 4 (some .boolean) room_1) (hN : 166 ≤ Z.2.2.2.1) {b : Nat} {xs : Nat → Int32} {L : Nat} (hL : Lx Γ Z b L xs) (v3 : Int)  (K10 : Int → Mm → Option (Unit)) (D : Mm) (hK10 : ∀ (v3 : Int) (D : Mm), Zv Γ Z 4 (QfL Γ b) (K10 v3 D) D 18 [(0, Value.ref b), (1, zr Z 1), (2, zr Z 144), (3, zi v3)] []) : Zv Γ Z 4 (QfL Γ b) (f_Law_law_257 xs L v3 K10 D) D 257 [(0, Value.ref b), (1, zr Z 1), (2, zr Z 144), (3, zi v3)] [] := by
  unfold f_Law_law_257
  refine zv_aload_n X d_Law_law_257 rfl 1 rfl ?_
  refine zv_cVM1 X (av := []) (st := []) (ci := 6) (c_Main_lay Γ.2.1 X.2.2.2.2.2.2.2.1 (Int.le_trans (by decide) hN) D) mk_Law_29 rfl (za_1 (Int.le_trans (by decide) hN)) ⟨rfl, rfl, Nat.le_of_ble_eq_true rfl, Nat.le_of_ble_eq_true rfl⟩ rfl (Nat.le_of_ble_eq_true rfl) d_Law_law_258 (fun r1 D2 hr1 => ?_)
  refine zv_aload_n X d_Law_law_261 rfl 2 rfl ?_
  refine zv_cVM1 X (av := []) (st := [zi r1]) (ci := 7) (c_Model_lay Γ.2.1 X.2.2.2.2.2.2.2.1 hN D2) mk_Law_32 rfl (za_144 hN) ⟨rfl, rfl, Nat.le_of_ble_eq_true rfl, Nat.le_of_ble_eq_true rfl⟩ rfl (Nat.le_of_ble_eq_true rfl) d_Law_law_262 (fun r3 D4 hr3 => ?_)
  refine zv_icmp_eq X (tgt := 1316) d_Law_law_265 (by decide) (fun h265 => ?_) (fun h265 => ?_)
  · exact v_Law_law_1316 X hN hL v3 K10 D4 hK10
  · refine zv_iconst X d_Law_law_268 ?_
    exact zv_none
set_option maxRecDepth 100000 in
theorem v_Law_law_244 {Γ : Gt} {Z : Zt} (X : Cx Γ Z code R_law 4 (some .boolean) room_1) (hN : 166 ≤ Z.2.2.2.1) {b : Nat} {xs : Nat → Int32} {L : Nat} (hL : Lx Γ Z b L xs) (v3 : Int)  (K10 : Int → Mm → Option (Unit)) (D : Mm) (hK10 : ∀ (v3 : Int) (D : Mm), Zv Γ Z 4 (QfL Γ b) (K10 v3 D) D 18 [(0, Value.ref b), (1, zr Z 1), (2, zr Z 144), (3, zi v3)] []) : Zv Γ Z 4 (QfL Γ b) (f_Law_law_244 xs L v3 K10 D) D 244 [(0, Value.ref b), (1, zr Z 1), (2, zr Z 144), (3, zi v3)] [] := by
  unfold f_Law_law_244
  refine zv_aload_n X d_Law_law_244 rfl 1 rfl ?_
  refine zv_cVM1 X (av := []) (st := []) (ci := 6) (c_Main_fault Γ.2.1 X.2.2.2.2.2.2.2.1 (Int.le_trans (by decide) hN) D) mk_Law_25 rfl (za_1 (Int.le_trans (by decide) hN)) ⟨rfl, rfl, Nat.le_of_ble_eq_true rfl, Nat.le_of_ble_eq_true rfl⟩ rfl (Nat.le_of_ble_eq_true rfl) d_Law_law_245 (fun r1 D2 hr1 => ?_)
  refine zv_aload_n X d_Law_law_248 rfl 2 rfl ?_
  refine zv_cVM1 X (av := []) (st := [zi r1]) (ci := 7) (c_Model_fault Γ.2.1 X.2.2.2.2.2.2.2.1 hN D2) mk_Law_28 rfl (za_144 hN) ⟨rfl, rfl, Nat.le_of_ble_eq_true rfl, Nat.le_of_ble_eq_true rfl⟩ rfl (Nat.le_of_ble_eq_true rfl) d_Law_law_249 (fun r3 D4 hr3 => ?_)
  refine zv_icmp_eq X (tgt := 1316) d_Law_law_252 (by decide) (fun h252 => ?_) (fun h252 => ?_)
  · exact v_Law_law_1316 X hN hL v3 K10 D4 hK10
  · refine zv_iconst X d_Law_law_255 ?_
    exact zv_none
set_option maxRecDepth 100000 in
theorem v_Law_law_231 {Γ : Gt} {Z : Zt} (X : Cx Γ Z code R_law 4 (some .boolean) room_1) (hN : 166 ≤ Z.2.2.2.1) {b : Nat} {xs : Nat → Int32} {L : Nat} (hL : Lx Γ Z b L xs) (v3 : Int)  (K10 : Int → Mm → Option (Unit)) (D : Mm) (hK10 : ∀ (v3 : Int) (D : Mm), Zv Γ Z 4 (QfL Γ b) (K10 v3 D) D 18 [(0, Value.ref b), (1, zr Z 1), (2, zr Z 144), (3, zi v3)] []) : Zv Γ Z 4 (QfL Γ b) (f_Law_law_231 xs L v3 K10 D) D 231 [(0, Value.ref b), (1, zr Z 1), (2, zr Z 144), (3, zi v3)] [] := by
  unfold f_Law_law_231
  refine zv_aload_n X d_Law_law_231 rfl 1 rfl ?_
  refine zv_cVM1 X (av := []) (st := []) (ci := 6) (c_Main_wipe Γ.2.1 X.2.2.2.2.2.2.2.1 (Int.le_trans (by decide) hN) D) mk_Law_20 rfl (za_1 (Int.le_trans (by decide) hN)) ⟨rfl, rfl, Nat.le_of_ble_eq_true rfl, Nat.le_of_ble_eq_true rfl⟩ rfl (Nat.le_of_ble_eq_true rfl) d_Law_law_232 (fun r1 D2 hr1 => ?_)
  refine zv_aload_n X d_Law_law_235 rfl 2 rfl ?_
  refine zv_cVM1 X (av := []) (st := [zi r1]) (ci := 7) (c_Model_wipe Γ.2.1 X.2.2.2.2.2.2.2.1 hN D2) mk_Law_24 rfl (za_144 hN) ⟨rfl, rfl, Nat.le_of_ble_eq_true rfl, Nat.le_of_ble_eq_true rfl⟩ rfl (Nat.le_of_ble_eq_true rfl) d_Law_law_236 (fun r3 D4 hr3 => ?_)
  refine zv_icmp_eq X (tgt := 1316) d_Law_law_239 (by decide) (fun h239 => ?_) (fun h239 => ?_)
  · exact v_Law_law_1316 X hN hL v3 K10 D4 hK10
  · refine zv_iconst X d_Law_law_242 ?_
    exact zv_none
set_option maxRecDepth 100000 in
theorem v_Law_law_168 {Γ : Gt} {Z : Zt} (X : Cx Γ Z code R_law 4 (some .boolean) room_1) (hN : 166 ≤ Z.2.2.2.1) {b : Nat} {xs : Nat → Int32} {L : Nat} (hL : Lx Γ Z b L xs) (v3 : Int)  (K10 : Int → Mm → Option (Unit)) (D : Mm) (hK10 : ∀ (v3 : Int) (D : Mm), Zv Γ Z 4 (QfL Γ b) (K10 v3 D) D 18 [(0, Value.ref b), (1, zr Z 1), (2, zr Z 144), (3, zi v3)] []) : Zv Γ Z 4 (QfL Γ b) (f_Law_law_168 xs L v3 K10 D) D 168 [(0, Value.ref b), (1, zr Z 1), (2, zr Z 144), (3, zi v3)] [] := by
  unfold f_Law_law_168
  refine zv_aload_n X d_Law_law_168 rfl 1 rfl ?_
  refine zv_saload_n X d_Law_law_169 rfl 0 rfl ?_
  refine zv_iload_n X d_Law_law_170 rfl 3 rfl ?_
  refine zv_iconst X d_Law_law_171 ?_
  refine zv_iadd X d_Law_law_172 ?_
  refine zv_sld X hL d_Law_law_173 (fun ha173 hb173 => ?_)
  refine zv_saload_n X d_Law_law_174 rfl 0 rfl ?_
  refine zv_iload_n X d_Law_law_175 rfl 3 rfl ?_
  refine zv_iconst X d_Law_law_176 ?_
  refine zv_iadd X d_Law_law_177 ?_
  refine zv_sld X hL d_Law_law_178 (fun ha178 hb178 => ?_)
  refine zv_i2l X d_Law_law_179 ?_
  refine zv_bipush X d_Law_law_180 (by decide +kernel) ?_
  refine zv_lshl X d_Law_law_182 ?_
  refine zv_saload_n X d_Law_law_183 rfl 0 rfl ?_
  refine zv_iload_n X d_Law_law_184 rfl 3 rfl ?_
  refine zv_iconst X d_Law_law_185 ?_
  refine zv_iadd X d_Law_law_186 ?_
  refine zv_sld X hL d_Law_law_187 (fun ha187 hb187 => ?_)
  refine zv_i2l X d_Law_law_188 ?_
  refine zv_ldc2 X 4294967295 kc_Law_13 (by decide +kernel) d_Law_law_189 ?_
  refine zv_land X d_Law_law_192 ?_
  refine zv_lor X d_Law_law_193 ?_
  refine zv_cVM1 X (av := [zi (xz xs (v3 + 1)), zl (jlor (jlshl (wI (xz xs (v3 + 2))) 32) (jland (wI (xz xs (v3 + 3))) 4294967295))]) (st := []) (ci := 6) (c_Main_write Γ.2.1 X.2.2.2.2.2.2.2.1 (Int.le_trans (by decide) hN) (xz xs (v3 + 1)) (jlor (jlshl (wI (xz xs (v3 + 2))) 32) (jland (wI (xz xs (v3 + 3))) 4294967295)) D) mk_Law_15 rfl (za_1 (Int.le_trans (by decide) hN)) ⟨rfl, rfl, Nat.le_of_ble_eq_true rfl, Nat.le_of_ble_eq_true rfl⟩ rfl (Nat.le_of_ble_eq_true rfl) d_Law_law_194 (fun r1 D2 hr1 => ?_)
  refine zv_aload_n X d_Law_law_197 rfl 2 rfl ?_
  refine zv_saload_n X d_Law_law_198 rfl 0 rfl ?_
  refine zv_iload_n X d_Law_law_199 rfl 3 rfl ?_
  refine zv_iconst X d_Law_law_200 ?_
  refine zv_iadd X d_Law_law_201 ?_
  refine zv_sld X hL d_Law_law_202 (fun ha202 hb202 => ?_)
  refine zv_saload_n X d_Law_law_203 rfl 0 rfl ?_
  refine zv_iload_n X d_Law_law_204 rfl 3 rfl ?_
  refine zv_iconst X d_Law_law_205 ?_
  refine zv_iadd X d_Law_law_206 ?_
  refine zv_sld X hL d_Law_law_207 (fun ha207 hb207 => ?_)
  refine zv_i2l X d_Law_law_208 ?_
  refine zv_bipush X d_Law_law_209 (by decide +kernel) ?_
  refine zv_lshl X d_Law_law_211 ?_
  refine zv_saload_n X d_Law_law_212 rfl 0 rfl ?_
  refine zv_iload_n X d_Law_law_213 rfl 3 rfl ?_
  refine zv_iconst X d_Law_law_214 ?_
  refine zv_iadd X d_Law_law_215 ?_
  refine zv_sld X hL d_Law_law_216 (fun ha216 hb216 => ?_)
  refine zv_i2l X d_Law_law_217 ?_
  refine zv_ldc2 X 4294967295 kc_Law_13 (by decide +kernel) d_Law_law_218 ?_
  refine zv_land X d_Law_law_221 ?_
  refine zv_lor X d_Law_law_222 ?_
  refine zv_cVM1 X (av := [zi (xz xs (v3 + 1)), zl (jlor (jlshl (wI (xz xs (v3 + 2))) 32) (jland (wI (xz xs (v3 + 3))) 4294967295))]) (st := [zi r1]) (ci := 7) (c_Model_write Γ.2.1 X.2.2.2.2.2.2.2.1 hN (xz xs (v3 + 1)) (jlor (jlshl (wI (xz xs (v3 + 2))) 32) (jland (wI (xz xs (v3 + 3))) 4294967295)) D2) mk_Law_19 rfl (za_144 hN) ⟨rfl, rfl, Nat.le_of_ble_eq_true rfl, Nat.le_of_ble_eq_true rfl⟩ rfl (Nat.le_of_ble_eq_true rfl) d_Law_law_223 (fun r3 D4 hr3 => ?_)
  refine zv_icmp_eq X (tgt := 1316) d_Law_law_226 (by decide) (fun h226 => ?_) (fun h226 => ?_)
  · exact v_Law_law_1316 X hN hL v3 K10 D4 hK10
  · refine zv_iconst X d_Law_law_229 ?_
    exact zv_none
set_option maxRecDepth 100000 in
theorem v_Law_law_18 {Γ : Gt} {Z : Zt} (X : Cx Γ Z code R_law 4 (some .boolean) room_1) (hN : 166 ≤ Z.2.2.2.1) {b : Nat} {xs : Nat → Int32} {L : Nat} (hL : Lx Γ Z b L xs)    : ∀ (n : Nat) (v3 : Int) (D : Mm), Zv Γ Z 4 (QfL Γ b) (f_Law_law_18 xs L n v3 D) D 18 [(0, Value.ref b), (1, zr Z 1), (2, zr Z 144), (3, zi v3)] [] := by
  intro n
  induction n with
  | zero =>
    intro v3 D
    exact zv_none
  | succ n ih =>
    intro v3 D
    rw [f_Law_law_18]
    refine zv_iload_n X d_Law_law_18 rfl 3 rfl ?_
    refine zv_saload_n X d_Law_law_19 rfl 0 rfl ?_
    refine zv_slen X hL d_Law_law_20 ?_
    refine zv_bipush X d_Law_law_21 (by decide +kernel) ?_
    refine zv_isub X d_Law_law_23 ?_
    refine zv_icmp_gt X (tgt := 1322) d_Law_law_24 (by decide) (fun h24 => ?_) (fun h24 => ?_)
    · refine zv_iconst X d_Law_law_1322 ?_
      exact zv_law1 X hL d_Law_law_1323
    · refine zv_saload_n X d_Law_law_27 rfl 0 rfl ?_
      refine zv_iload_n X d_Law_law_28 rfl 3 rfl ?_
      refine zv_sld X hL d_Law_law_29 (fun ha29 hb29 => ?_)
      refine zv_bipush X d_Law_law_30 (by decide +kernel) ?_
      refine zv_iand X d_Law_law_32 ?_
      refine zv_split (fun h33_0 => ?_) (fun h33_0 => ?_)
      · refine zv_tin X (tgt := 168) (off := 135) d_Law_law_33 h33_0 (by decide +kernel) (by decide) ?_
        exact v_Law_law_168 X hN hL v3 (f_Law_law_18 xs L n) D ih
      refine zv_split (fun h33_1 => ?_) (fun h33_1 => ?_)
      · refine zv_tin X (tgt := 231) (off := 198) d_Law_law_33 h33_1 (by decide +kernel) (by decide) ?_
        exact v_Law_law_231 X hN hL v3 (f_Law_law_18 xs L n) D ih
      refine zv_split (fun h33_2 => ?_) (fun h33_2 => ?_)
      · refine zv_tin X (tgt := 244) (off := 211) d_Law_law_33 h33_2 (by decide +kernel) (by decide) ?_
        exact v_Law_law_244 X hN hL v3 (f_Law_law_18 xs L n) D ih
      refine zv_split (fun h33_3 => ?_) (fun h33_3 => ?_)
      · refine zv_tin X (tgt := 257) (off := 224) d_Law_law_33 h33_3 (by decide +kernel) (by decide) ?_
        exact v_Law_law_257 X hN hL v3 (f_Law_law_18 xs L n) D ih
      refine zv_split (fun h33_4 => ?_) (fun h33_4 => ?_)
      · refine zv_tin X (tgt := 270) (off := 237) d_Law_law_33 h33_4 (by decide +kernel) (by decide) ?_
        exact v_Law_law_270 X hN hL v3 (f_Law_law_18 xs L n) D ih
      refine zv_split (fun h33_5 => ?_) (fun h33_5 => ?_)
      · refine zv_tin X (tgt := 303) (off := 270) d_Law_law_33 h33_5 (by decide +kernel) (by decide) ?_
        exact v_Law_law_303 X hN hL v3 (f_Law_law_18 xs L n) D ih
      refine zv_split (fun h33_6 => ?_) (fun h33_6 => ?_)
      · refine zv_tin X (tgt := 346) (off := 313) d_Law_law_33 h33_6 (by decide +kernel) (by decide) ?_
        exact v_Law_law_346 X hN hL v3 (f_Law_law_18 xs L n) D ih
      refine zv_split (fun h33_7 => ?_) (fun h33_7 => ?_)
      · refine zv_tin X (tgt := 389) (off := 356) d_Law_law_33 h33_7 (by decide +kernel) (by decide) ?_
        exact v_Law_law_389 X hN hL v3 (f_Law_law_18 xs L n) D ih
      refine zv_split (fun h33_8 => ?_) (fun h33_8 => ?_)
      · refine zv_tin X (tgt := 453) (off := 420) d_Law_law_33 h33_8 (by decide +kernel) (by decide) ?_
        exact v_Law_law_453 X hN hL v3 (f_Law_law_18 xs L n) D ih
      refine zv_split (fun h33_9 => ?_) (fun h33_9 => ?_)
      · refine zv_tin X (tgt := 496) (off := 463) d_Law_law_33 h33_9 (by decide +kernel) (by decide) ?_
        exact v_Law_law_496 X hN hL v3 (f_Law_law_18 xs L n) D ih
      refine zv_split (fun h33_10 => ?_) (fun h33_10 => ?_)
      · refine zv_tin X (tgt := 539) (off := 506) d_Law_law_33 h33_10 (by decide +kernel) (by decide) ?_
        exact v_Law_law_539 X hN hL v3 (f_Law_law_18 xs L n) D ih
      refine zv_split (fun h33_11 => ?_) (fun h33_11 => ?_)
      · refine zv_tin X (tgt := 615) (off := 582) d_Law_law_33 h33_11 (by decide +kernel) (by decide) ?_
        exact v_Law_law_615 X hN hL v3 (f_Law_law_18 xs L n) D ih
      refine zv_split (fun h33_12 => ?_) (fun h33_12 => ?_)
      · refine zv_tin X (tgt := 668) (off := 635) d_Law_law_33 h33_12 (by decide +kernel) (by decide) ?_
        exact v_Law_law_668 X hN hL v3 (f_Law_law_18 xs L n) D ih
      refine zv_split (fun h33_13 => ?_) (fun h33_13 => ?_)
      · refine zv_tin X (tgt := 743) (off := 710) d_Law_law_33 h33_13 (by decide +kernel) (by decide) ?_
        exact v_Law_law_743 X hN hL v3 (f_Law_law_18 xs L n) D ih
      refine zv_split (fun h33_14 => ?_) (fun h33_14 => ?_)
      · refine zv_tin X (tgt := 776) (off := 743) d_Law_law_33 h33_14 (by decide +kernel) (by decide) ?_
        exact v_Law_law_776 X hN hL v3 (f_Law_law_18 xs L n) D ih
      refine zv_split (fun h33_15 => ?_) (fun h33_15 => ?_)
      · refine zv_tin X (tgt := 819) (off := 786) d_Law_law_33 h33_15 (by decide +kernel) (by decide) ?_
        exact v_Law_law_819 X hN hL v3 (f_Law_law_18 xs L n) D ih
      refine zv_split (fun h33_16 => ?_) (fun h33_16 => ?_)
      · refine zv_tin X (tgt := 862) (off := 829) d_Law_law_33 h33_16 (by decide +kernel) (by decide) ?_
        exact v_Law_law_862 X hN hL v3 (f_Law_law_18 xs L n) D ih
      refine zv_split (fun h33_17 => ?_) (fun h33_17 => ?_)
      · refine zv_tin X (tgt := 931) (off := 898) d_Law_law_33 h33_17 (by decide +kernel) (by decide) ?_
        exact v_Law_law_931 X hN hL v3 (f_Law_law_18 xs L n) D ih
      refine zv_split (fun h33_18 => ?_) (fun h33_18 => ?_)
      · refine zv_tin X (tgt := 1000) (off := 967) d_Law_law_33 h33_18 (by decide +kernel) (by decide) ?_
        exact v_Law_law_1000 X hN hL v3 (f_Law_law_18 xs L n) D ih
      refine zv_split (fun h33_19 => ?_) (fun h33_19 => ?_)
      · refine zv_tin X (tgt := 1033) (off := 1000) d_Law_law_33 h33_19 (by decide +kernel) (by decide) ?_
        exact v_Law_law_1033 X hN hL v3 (f_Law_law_18 xs L n) D ih
      refine zv_split (fun h33_20 => ?_) (fun h33_20 => ?_)
      · refine zv_tin X (tgt := 1066) (off := 1033) d_Law_law_33 h33_20 (by decide +kernel) (by decide) ?_
        exact v_Law_law_1066 X hN hL v3 (f_Law_law_18 xs L n) D ih
      refine zv_split (fun h33_21 => ?_) (fun h33_21 => ?_)
      · refine zv_tin X (tgt := 1099) (off := 1066) d_Law_law_33 h33_21 (by decide +kernel) (by decide) ?_
        exact v_Law_law_1099 X hN hL v3 (f_Law_law_18 xs L n) D ih
      refine zv_split (fun h33_22 => ?_) (fun h33_22 => ?_)
      · refine zv_tin X (tgt := 1142) (off := 1109) d_Law_law_33 h33_22 (by decide +kernel) (by decide) ?_
        exact v_Law_law_1142 X hN hL v3 (f_Law_law_18 xs L n) D ih
      refine zv_split (fun h33_23 => ?_) (fun h33_23 => ?_)
      · refine zv_tin X (tgt := 1165) (off := 1132) d_Law_law_33 h33_23 (by decide +kernel) (by decide) ?_
        exact v_Law_law_1165 X hN hL v3 (f_Law_law_18 xs L n) D ih
      refine zv_split (fun h33_24 => ?_) (fun h33_24 => ?_)
      · refine zv_tin X (tgt := 1198) (off := 1165) d_Law_law_33 h33_24 (by decide +kernel) (by decide) ?_
        exact v_Law_law_1198 X hN hL v3 (f_Law_law_18 xs L n) D ih
      refine zv_split (fun h33_25 => ?_) (fun h33_25 => ?_)
      · refine zv_tin X (tgt := 1221) (off := 1188) d_Law_law_33 h33_25 (by decide +kernel) (by decide) ?_
        exact v_Law_law_1221 X hN hL v3 (f_Law_law_18 xs L n) D ih
      refine zv_split (fun h33_26 => ?_) (fun h33_26 => ?_)
      · refine zv_tin X (tgt := 1254) (off := 1221) d_Law_law_33 h33_26 (by decide +kernel) (by decide) ?_
        exact v_Law_law_1254 X hN hL v3 (f_Law_law_18 xs L n) D ih
      refine zv_split (fun h33_27 => ?_) (fun h33_27 => ?_)
      · refine zv_tin X (tgt := 1267) (off := 1234) d_Law_law_33 h33_27 (by decide +kernel) (by decide) ?_
        exact v_Law_law_1267 X hN hL v3 (f_Law_law_18 xs L n) D ih
      refine zv_split (fun h33_28 => ?_) (fun h33_28 => ?_)
      · refine zv_tin X (tgt := 1280) (off := 1247) d_Law_law_33 h33_28 (by decide +kernel) (by decide) ?_
        exact v_Law_law_1280 X hN hL v3 (f_Law_law_18 xs L n) D ih
      refine zv_split (fun h33_29 => ?_) (fun h33_29 => ?_)
      · refine zv_tin X (tgt := 1293) (off := 1260) d_Law_law_33 h33_29 (by decide +kernel) (by decide) ?_
        exact v_Law_law_1293 X hN hL v3 (f_Law_law_18 xs L n) D ih
      refine zv_tdef X (tgt := 1316) d_Law_law_33 (zt_def (cs := [0, 1, 2, 3, 4, 5, 6, 7, 8, 9, 10, 11, 12, 13, 14, 15, 16, 17, 18, 19, 20, 21, 22, 23, 24, 25, 26, 27, 28, 29]) (by decide +kernel) (by decide) (List.forall_mem_cons.mpr ⟨zI_nek h33_0 (by decide +kernel), List.forall_mem_cons.mpr ⟨zI_nek h33_1 (by decide +kernel), List.forall_mem_cons.mpr ⟨zI_nek h33_2 (by decide +kernel), List.forall_mem_cons.mpr ⟨zI_nek h33_3 (by decide +kernel), List.forall_mem_cons.mpr ⟨zI_nek h33_4 (by decide +kernel), List.forall_mem_cons.mpr ⟨zI_nek h33_5 (by decide +kernel), List.forall_mem_cons.mpr ⟨zI_nek h33_6 (by decide +kernel), List.forall_mem_cons.mpr ⟨zI_nek h33_7 (by decide +kernel), List.forall_mem_cons.mpr ⟨zI_nek h33_8 (by decide +kernel), List.forall_mem_cons.mpr ⟨zI_nek h33_9 (by decide +kernel), List.forall_mem_cons.mpr ⟨zI_nek h33_10 (by decide +kernel), List.forall_mem_cons.mpr ⟨zI_nek h33_11 (by decide +kernel), List.forall_mem_cons.mpr ⟨zI_nek h33_12 (by decide +kernel), List.forall_mem_cons.mpr ⟨zI_nek h33_13 (by decide +kernel), List.forall_mem_cons.mpr ⟨zI_nek h33_14 (by decide +kernel), List.forall_mem_cons.mpr ⟨zI_nek h33_15 (by decide +kernel), List.forall_mem_cons.mpr ⟨zI_nek h33_16 (by decide +kernel), List.forall_mem_cons.mpr ⟨zI_nek h33_17 (by decide +kernel), List.forall_mem_cons.mpr ⟨zI_nek h33_18 (by decide +kernel), List.forall_mem_cons.mpr ⟨zI_nek h33_19 (by decide +kernel), List.forall_mem_cons.mpr ⟨zI_nek h33_20 (by decide +kernel), List.forall_mem_cons.mpr ⟨zI_nek h33_21 (by decide +kernel), List.forall_mem_cons.mpr ⟨zI_nek h33_22 (by decide +kernel), List.forall_mem_cons.mpr ⟨zI_nek h33_23 (by decide +kernel), List.forall_mem_cons.mpr ⟨zI_nek h33_24 (by decide +kernel), List.forall_mem_cons.mpr ⟨zI_nek h33_25 (by decide +kernel), List.forall_mem_cons.mpr ⟨zI_nek h33_26 (by decide +kernel), List.forall_mem_cons.mpr ⟨zI_nek h33_27 (by decide +kernel), List.forall_mem_cons.mpr ⟨zI_nek h33_28 (by decide +kernel), List.forall_mem_cons.mpr ⟨zI_nek h33_29 (by decide +kernel), List.forall_mem_nil _⟩⟩⟩⟩⟩⟩⟩⟩⟩⟩⟩⟩⟩⟩⟩⟩⟩⟩⟩⟩⟩⟩⟩⟩⟩⟩⟩⟩⟩⟩)) (by decide) ?_
      exact v_Law_law_1316 X hN hL v3 (f_Law_law_18 xs L n) D ih
