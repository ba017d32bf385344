section
variable {p : Program} {l : Launch} {e : Env} {s : State} {m : MethodId} {below : List Frame} {meth : Method} {c : Code} {b L : Nat} {xs : Nat → Int32} {D : va_G} {cc : Nat → ClassId} {a a2 : Nat → Nat} {tU : Nat} {adK adV : Nat → Nat} {Rel : Mem → Mem → Prop}
set_option maxRecDepth 100000 in
set_option maxHeartbeats 4000000 in
theorem law_30 (C0 : LStat s D cc a a2 tU adK adV) (S : CallFix p m c code 4 s #[Value.ref b] gtbl RL) (hX : va_X b L xs s s.heap) (hbl : b < s.heap.size) {i : Int32} (h1 : vp_in (i + 1) L) (h2 : vp_in (i + 2) L) (h3 : vp_in (i + 3) L) (h4 : vp_in (i + 4) L) (h5 : vp_in (i + 5) L) (hst : ST_30 Rel) {u v : Mem} (hR : Rel u v) (hnx : ∀ u' v', Rel u' v' → LW p l e s m below meth c b D cc a a2 u' v' 1479 i) : LW p l e s m below meth c b D cc a a2 u v 1119 i := by
  intro H locs ls hPC hPM hS hl
  have hbA : ¬ (fun z : Nat => s.heap.size ≤ z) b := Nat.not_le.mpr hbl
  obtain ⟨hx, hb, hml, hown, hts⟩ := id S
  refine lv_aload_n hx hb dL_law_1119 rfl (lv_at hl 1 rfl) ?_
  obtain ⟨r, u', v', e1, e2, hR'⟩ := hst u v  hR
  refine lawC C0 (m_X6_wipe e1) rfl k_L_142 S ⟨Nat.le_of_ble_eq_true rfl, Nat.le_of_ble_eq_true rfl⟩ rfl rfl hl.1 (Nat.le_of_ble_eq_true rfl) dL_law_1120 ⟨Nat.le_of_ble_eq_true rfl, Nat.le_of_ble_eq_true rfl⟩ hPC hPM hS (fun H locs hPC hPM hS => ?_)
  refine W.eq (g2 := F0 m 1123 ls [.int r]) rfl ?_
  refine lv_aload_n hx hb dL_law_1123 rfl (lv_at hl 2 rfl) ?_
  refine lawM C0 (m_X7_wipe e2) rfl k_L_145 S ⟨Nat.le_of_ble_eq_true rfl, Nat.le_of_ble_eq_true rfl⟩ rfl rfl hl.1 (Nat.le_of_ble_eq_true rfl) dL_law_1124 ⟨Nat.le_of_ble_eq_true rfl, Nat.le_of_ble_eq_true rfl⟩ hPC hPM hS (fun H locs hPC hPM hS => ?_)
  refine W.eq (g2 := F0 m 1127 ls [.int r, .int r]) rfl ?_
  refine lv_icmp_eq (tgt := 1479) hx hb dL_law_1127 (by decide) (fun _ => ?_) (fun c9 => absurd rfl c9)
  exact hnx _ _ hR' H locs ls hPC hPM hS (lv_sub hl [0, 1, 2, 3] rfl)

set_option maxRecDepth 100000 in
set_option maxHeartbeats 4000000 in
theorem law_31 (C0 : LStat s D cc a a2 tU adK adV) (S : CallFix p m c code 4 s #[Value.ref b] gtbl RL) (hX : va_X b L xs s s.heap) (hbl : b < s.heap.size) {i : Int32} (h1 : vp_in (i + 1) L) (h2 : vp_in (i + 2) L) (h3 : vp_in (i + 3) L) (h4 : vp_in (i + 4) L) (h5 : vp_in (i + 5) L) (hst : ST_31 Rel) {u v : Mem} (hR : Rel u v) (hnx : ∀ u' v', Rel u' v' → LW p l e s m below meth c b D cc a a2 u' v' 1479 i) : LW p l e s m below meth c b D cc a a2 u v 1132 i := by
  intro H locs ls hPC hPM hS hl
  have hbA : ¬ (fun z : Nat => s.heap.size ≤ z) b := Nat.not_le.mpr hbl
  obtain ⟨hx, hb, hml, hown, hts⟩ := id S
  refine lv_aload_n hx hb dL_law_1132 rfl (lv_at hl 1 rfl) ?_
  obtain ⟨r, u', v', e1, e2, hR'⟩ := hst u v  hR
  refine lawC C0 (m_X6_text e1) rfl k_L_146 S ⟨Nat.le_of_ble_eq_true rfl, Nat.le_of_ble_eq_true rfl⟩ rfl rfl hl.1 (Nat.le_of_ble_eq_true rfl) dL_law_1133 ⟨Nat.le_of_ble_eq_true rfl, Nat.le_of_ble_eq_true rfl⟩ hPC hPM hS (fun H locs hPC hPM hS => ?_)
  refine W.eq (g2 := F0 m 1136 ls [.int r]) rfl ?_
  refine lv_aload_n hx hb dL_law_1136 rfl (lv_at hl 2 rfl) ?_
  refine lawM C0 (m_X7_text e2) rfl k_L_149 S ⟨Nat.le_of_ble_eq_true rfl, Nat.le_of_ble_eq_true rfl⟩ rfl rfl hl.1 (Nat.le_of_ble_eq_true rfl) dL_law_1137 ⟨Nat.le_of_ble_eq_true rfl, Nat.le_of_ble_eq_true rfl⟩ hPC hPM hS (fun H locs hPC hPM hS => ?_)
  refine W.eq (g2 := F0 m 1140 ls [.int r, .int r]) rfl ?_
  refine lv_icmp_eq (tgt := 1479) hx hb dL_law_1140 (by decide) (fun _ => ?_) (fun c9 => absurd rfl c9)
  exact hnx _ _ hR' H locs ls hPC hPM hS (lv_sub hl [0, 1, 2, 3] rfl)

set_option maxRecDepth 100000 in
set_option maxHeartbeats 4000000 in
theorem law_32 (C0 : LStat s D cc a a2 tU adK adV) (S : CallFix p m c code 4 s #[Value.ref b] gtbl RL) (hX : va_X b L xs s s.heap) (hbl : b < s.heap.size) {i : Int32} (h1 : vp_in (i + 1) L) (h2 : vp_in (i + 2) L) (h3 : vp_in (i + 3) L) (h4 : vp_in (i + 4) L) (h5 : vp_in (i + 5) L) (hst : ST_32 Rel) {u v : Mem} (hR : Rel u v) (hnx : ∀ u' v', Rel u' v' → LW p l e s m below meth c b D cc a a2 u' v' 1479 i) : LW p l e s m below meth c b D cc a a2 u v 1145 i := by
  intro H locs ls hPC hPM hS hl
  have hbA : ¬ (fun z : Nat => s.heap.size ≤ z) b := Nat.not_le.mpr hbl
  obtain ⟨hx, hb, hml, hown, hts⟩ := id S
  refine lv_aload_n hx hb dL_law_1145 rfl (lv_at hl 1 rfl) ?_
  refine lv_aload_n hx hb dL_law_1146 rfl (lv_at hl 0 rfl) ?_
  refine lv_iload_n hx hb dL_law_1147 rfl (lv_at hl 3 rfl) ?_
  refine lv_iconst (v := 1) hx hb dL_law_1148 (by decide) ?_
  refine lv_iadd hx hb dL_law_1149 ?_
  refine va_sld hx hb hX hbl hbA hS h1 dL_law_1150 ?_
  refine lv_aload_n hx hb dL_law_1151 rfl (lv_at hl 0 rfl) ?_
  refine lv_iload_n hx hb dL_law_1152 rfl (lv_at hl 3 rfl) ?_
  refine lv_iconst (v := 2) hx hb dL_law_1153 (by decide) ?_
  refine lv_iadd hx hb dL_law_1154 ?_
  refine va_sld hx hb hX hbl hbA hS h2 dL_law_1155 ?_
  refine lv_aload_n hx hb dL_law_1156 rfl (lv_at hl 0 rfl) ?_
  refine lv_iload_n hx hb dL_law_1157 rfl (lv_at hl 3 rfl) ?_
  refine lv_iconst (v := 3) hx hb dL_law_1158 (by decide) ?_
  refine lv_iadd hx hb dL_law_1159 ?_
  refine va_sld hx hb hX hbl hbA hS h3 dL_law_1160 ?_
  obtain ⟨r, u', v', e1, e2, hR'⟩ := hst u v (xs (i + (1 : Int32)).toNatClampNeg) (xs (i + (2 : Int32)).toNatClampNeg) (xs (i + (3 : Int32)).toNatClampNeg) hR
  refine lawC C0 (m_X6_sheet e1) rfl k_L_150 S ⟨Nat.le_of_ble_eq_true rfl, Nat.le_of_ble_eq_true rfl⟩ rfl rfl hl.1 (Nat.le_of_ble_eq_true rfl) dL_law_1161 ⟨Nat.le_of_ble_eq_true rfl, Nat.le_of_ble_eq_true rfl⟩ hPC hPM hS (fun H locs hPC hPM hS => ?_)
  refine W.eq (g2 := F0 m 1164 ls [.int r]) rfl ?_
  refine lv_aload_n hx hb dL_law_1164 rfl (lv_at hl 2 rfl) ?_
  refine lv_aload_n hx hb dL_law_1165 rfl (lv_at hl 0 rfl) ?_
  refine lv_iload_n hx hb dL_law_1166 rfl (lv_at hl 3 rfl) ?_
  refine lv_iconst (v := 1) hx hb dL_law_1167 (by decide) ?_
  refine lv_iadd hx hb dL_law_1168 ?_
  refine va_sld hx hb hX hbl hbA hS h1 dL_law_1169 ?_
  refine lv_aload_n hx hb dL_law_1170 rfl (lv_at hl 0 rfl) ?_
  refine lv_iload_n hx hb dL_law_1171 rfl (lv_at hl 3 rfl) ?_
  refine lv_iconst (v := 2) hx hb dL_law_1172 (by decide) ?_
  refine lv_iadd hx hb dL_law_1173 ?_
  refine va_sld hx hb hX hbl hbA hS h2 dL_law_1174 ?_
  refine lv_aload_n hx hb dL_law_1175 rfl (lv_at hl 0 rfl) ?_
  refine lv_iload_n hx hb dL_law_1176 rfl (lv_at hl 3 rfl) ?_
  refine lv_iconst (v := 3) hx hb dL_law_1177 (by decide) ?_
  refine lv_iadd hx hb dL_law_1178 ?_
  refine va_sld hx hb hX hbl hbA hS h3 dL_law_1179 ?_
  refine lawM C0 (m_X7_sheet e2) rfl k_L_153 S ⟨Nat.le_of_ble_eq_true rfl, Nat.le_of_ble_eq_true rfl⟩ rfl rfl hl.1 (Nat.le_of_ble_eq_true rfl) dL_law_1180 ⟨Nat.le_of_ble_eq_true rfl, Nat.le_of_ble_eq_true rfl⟩ hPC hPM hS (fun H locs hPC hPM hS => ?_)
  refine W.eq (g2 := F0 m 1183 ls [.int r, .int r]) rfl ?_
  refine lv_icmp_eq (tgt := 1479) hx hb dL_law_1183 (by decide) (fun _ => ?_) (fun c9 => absurd rfl c9)
  exact hnx _ _ hR' H locs ls hPC hPM hS (lv_sub hl [0, 1, 2, 3] rfl)

set_option maxRecDepth 100000 in
set_option maxHeartbeats 4000000 in
theorem law_33 (C0 : LStat s D cc a a2 tU adK adV) (S : CallFix p m c code 4 s #[Value.ref b] gtbl RL) (hX : va_X b L xs s s.heap) (hbl : b < s.heap.size) {i : Int32} (h1 : vp_in (i + 1) L) (h2 : vp_in (i + 2) L) (h3 : vp_in (i + 3) L) (h4 : vp_in (i + 4) L) (h5 : vp_in (i + 5) L) (hst : ST_33 Rel) {u v : Mem} (hR : Rel u v) (hnx : ∀ u' v', Rel u' v' → LW p l e s m below meth c b D cc a a2 u' v' 1479 i) : LW p l e s m below meth c b D cc a a2 u v 1188 i := by
  intro H locs ls hPC hPM hS hl
  have hbA : ¬ (fun z : Nat => s.heap.size ≤ z) b := Nat.not_le.mpr hbl
  obtain ⟨hx, hb, hml, hown, hts⟩ := id S
  refine lv_aload_n hx hb dL_law_1188 rfl (lv_at hl 1 rfl) ?_
  refine lv_aload_n hx hb dL_law_1189 rfl (lv_at hl 0 rfl) ?_
  refine lv_iload_n hx hb dL_law_1190 rfl (lv_at hl 3 rfl) ?_
  refine lv_iconst (v := 1) hx hb dL_law_1191 (by decide) ?_
  refine lv_iadd hx hb dL_law_1192 ?_
  refine va_sld hx hb hX hbl hbA hS h1 dL_law_1193 ?_
  refine lv_aload_n hx hb dL_law_1194 rfl (lv_at hl 0 rfl) ?_
  refine lv_iload_n hx hb dL_law_1195 rfl (lv_at hl 3 rfl) ?_
  refine lv_iconst (v := 2) hx hb dL_law_1196 (by decide) ?_
  refine lv_iadd hx hb dL_law_1197 ?_
  refine va_sld hx hb hX hbl hbA hS h2 dL_law_1198 ?_
  refine lv_aload_n hx hb dL_law_1199 rfl (lv_at hl 0 rfl) ?_
  refine lv_iload_n hx hb dL_law_1200 rfl (lv_at hl 3 rfl) ?_
  refine lv_iconst (v := 3) hx hb dL_law_1201 (by decide) ?_
  refine lv_iadd hx hb dL_law_1202 ?_
  refine va_sld hx hb hX hbl hbA hS h3 dL_law_1203 ?_
  refine lv_i2l hx hb dL_law_1204 rfl ?_
  refine lv_bipush (v := 32) hx hb dL_law_1205 (by decide) ?_
  refine lv_lshl hx hb dL_law_1207 rfl ?_
  refine lv_aload_n hx hb dL_law_1208 rfl (lv_at hl 0 rfl) ?_
  refine lv_iload_n hx hb dL_law_1209 rfl (lv_at hl 3 rfl) ?_
  refine lv_iconst (v := 4) hx hb dL_law_1210 (by decide) ?_
  refine lv_iadd hx hb dL_law_1211 ?_
  refine va_sld hx hb hX hbl hbA hS h4 dL_law_1212 ?_
  refine lv_i2l hx hb dL_law_1213 rfl ?_
  refine lv_ldc2 hx hb hown (hts _ q1346) dL_law_1214 ?_
  refine lv_land hx hb dL_law_1217 ?_
  refine lv_lor hx hb dL_law_1218 ?_
  obtain ⟨r, u', v', e1, e2, hR'⟩ := hst u v (xs (i + (1 : Int32)).toNatClampNeg) (xs (i + (2 : Int32)).toNatClampNeg) (((xs (i + (3 : Int32)).toNatClampNeg).toInt64 <<< ((32 : Int32).toInt64 &&& 63)) ||| ((xs (i + (4 : Int32)).toNatClampNeg).toInt64 &&& (4294967295 : Int64))) hR
  refine lawC C0 (m_X6_write e1) rfl k_L_154 S ⟨Nat.le_of_ble_eq_true rfl, Nat.le_of_ble_eq_true rfl⟩ rfl rfl hl.1 (Nat.le_of_ble_eq_true rfl) dL_law_1219 ⟨Nat.le_of_ble_eq_true rfl, Nat.le_of_ble_eq_true rfl⟩ hPC hPM hS (fun H locs hPC hPM hS => ?_)
  refine W.eq (g2 := F0 m 1222 ls [.long r]) rfl ?_
  refine lv_aload_n hx hb dL_law_1222 rfl (lv_at hl 2 rfl) ?_
  refine lv_aload_n hx hb dL_law_1223 rfl (lv_at hl 0 rfl) ?_
  refine lv_iload_n hx hb dL_law_1224 rfl (lv_at hl 3 rfl) ?_
  refine lv_iconst (v := 1) hx hb dL_law_1225 (by decide) ?_
  refine lv_iadd hx hb dL_law_1226 ?_
  refine va_sld hx hb hX hbl hbA hS h1 dL_law_1227 ?_
  refine lv_aload_n hx hb dL_law_1228 rfl (lv_at hl 0 rfl) ?_
  refine lv_iload_n hx hb dL_law_1229 rfl (lv_at hl 3 rfl) ?_
  refine lv_iconst (v := 2) hx hb dL_law_1230 (by decide) ?_
  refine lv_iadd hx hb dL_law_1231 ?_
  refine va_sld hx hb hX hbl hbA hS h2 dL_law_1232 ?_
  refine lv_aload_n hx hb dL_law_1233 rfl (lv_at hl 0 rfl) ?_
  refine lv_iload_n hx hb dL_law_1234 rfl (lv_at hl 3 rfl) ?_
  refine lv_iconst (v := 3) hx hb dL_law_1235 (by decide) ?_
  refine lv_iadd hx hb dL_law_1236 ?_
  refine va_sld hx hb hX hbl hbA hS h3 dL_law_1237 ?_
  refine lv_i2l hx hb dL_law_1238 rfl ?_
  refine lv_bipush (v := 32) hx hb dL_law_1239 (by decide) ?_
  refine lv_lshl hx hb dL_law_1241 rfl ?_
  refine lv_aload_n hx hb dL_law_1242 rfl (lv_at hl 0 rfl) ?_
  refine lv_iload_n hx hb dL_law_1243 rfl (lv_at hl 3 rfl) ?_
  refine lv_iconst (v := 4) hx hb dL_law_1244 (by decide) ?_
  refine lv_iadd hx hb dL_law_1245 ?_
  refine va_sld hx hb hX hbl hbA hS h4 dL_law_1246 ?_
  refine lv_i2l hx hb dL_law_1247 rfl ?_
  refine lv_ldc2 hx hb hown (hts _ q1346) dL_law_1248 ?_
  refine lv_land hx hb dL_law_1251 ?_
  refine lv_lor hx hb dL_law_1252 ?_
  refine lawM C0 (m_X7_write e2) rfl k_L_158 S ⟨Nat.le_of_ble_eq_true rfl, Nat.le_of_ble_eq_true rfl⟩ rfl rfl hl.1 (Nat.le_of_ble_eq_true rfl) dL_law_1253 ⟨Nat.le_of_ble_eq_true rfl, Nat.le_of_ble_eq_true rfl⟩ hPC hPM hS (fun H locs hPC hPM hS => ?_)
  refine W.eq (g2 := F0 m 1256 ls [.long r, .long r]) rfl ?_
  refine W.lcmp hx hb dL_law_1256 ?_
  refine lv_if_eq (tgt := 1479) hx hb dL_law_1257 (by decide) (fun _ => ?_) (fun c9 => absurd (lg_self _) c9)
  exact hnx _ _ hR' H locs ls hPC hPM hS (lv_sub hl [0, 1, 2, 3] rfl)

set_option maxRecDepth 100000 in
set_option maxHeartbeats 4000000 in
theorem law_34 (C0 : LStat s D cc a a2 tU adK adV) (S : CallFix p m c code 4 s #[Value.ref b] gtbl RL) (hX : va_X b L xs s s.heap) (hbl : b < s.heap.size) {i : Int32} (h1 : vp_in (i + 1) L) (h2 : vp_in (i + 2) L) (h3 : vp_in (i + 3) L) (h4 : vp_in (i + 4) L) (h5 : vp_in (i + 5) L) (hst : ST_34 Rel) {u v : Mem} (hR : Rel u v) (hnx : ∀ u' v', Rel u' v' → LW p l e s m below meth c b D cc a a2 u' v' 1479 i) : LW p l e s m below meth c b D cc a a2 u v 1262 i := by
  intro H locs ls hPC hPM hS hl
  have hbA : ¬ (fun z : Nat => s.heap.size ≤ z) b := Nat.not_le.mpr hbl
  obtain ⟨hx, hb, hml, hown, hts⟩ := id S
  refine lv_aload_n hx hb dL_law_1262 rfl (lv_at hl 1 rfl) ?_
  refine lv_aload_n hx hb dL_law_1263 rfl (lv_at hl 0 rfl) ?_
  refine lv_iload_n hx hb dL_law_1264 rfl (lv_at hl 3 rfl) ?_
  refine lv_iconst (v := 1) hx hb dL_law_1265 (by decide) ?_
  refine lv_iadd hx hb dL_law_1266 ?_
  refine va_sld hx hb hX hbl hbA hS h1 dL_law_1267 ?_
  refine lv_aload_n hx hb dL_law_1268 rfl (lv_at hl 0 rfl) ?_
  refine lv_iload_n hx hb dL_law_1269 rfl (lv_at hl 3 rfl) ?_
  refine lv_iconst (v := 2) hx hb dL_law_1270 (by decide) ?_
  refine lv_iadd hx hb dL_law_1271 ?_
  refine va_sld hx hb hX hbl hbA hS h2 dL_law_1272 ?_
  refine lv_aload_n hx hb dL_law_1273 rfl (lv_at hl 0 rfl) ?_
  refine lv_iload_n hx hb dL_law_1274 rfl (lv_at hl 3 rfl) ?_
  refine lv_iconst (v := 3) hx hb dL_law_1275 (by decide) ?_
  refine lv_iadd hx hb dL_law_1276 ?_
  refine va_sld hx hb hX hbl hbA hS h3 dL_law_1277 ?_
  refine lv_aload_n hx hb dL_law_1278 rfl (lv_at hl 0 rfl) ?_
  refine lv_iload_n hx hb dL_law_1279 rfl (lv_at hl 3 rfl) ?_
  refine lv_iconst (v := 4) hx hb dL_law_1280 (by decide) ?_
  refine lv_iadd hx hb dL_law_1281 ?_
  refine va_sld hx hb hX hbl hbA hS h4 dL_law_1282 ?_
  refine lv_aload_n hx hb dL_law_1283 rfl (lv_at hl 0 rfl) ?_
  refine lv_iload_n hx hb dL_law_1284 rfl (lv_at hl 3 rfl) ?_
  refine lv_iconst (v := 5) hx hb dL_law_1285 (by decide) ?_
  refine lv_iadd hx hb dL_law_1286 ?_
  refine va_sld hx hb hX hbl hbA hS h5 dL_law_1287 ?_
  obtain ⟨r, u', v', e1, e2, hR'⟩ := hst u v (xs (i + (1 : Int32)).toNatClampNeg) (xs (i + (2 : Int32)).toNatClampNeg) (xs (i + (3 : Int32)).toNatClampNeg) (xs (i + (4 : Int32)).toNatClampNeg) (xs (i + (5 : Int32)).toNatClampNeg) hR
  refine lawC C0 (m_X6_copy e1) rfl k_L_159 S ⟨Nat.le_of_ble_eq_true rfl, Nat.le_of_ble_eq_true rfl⟩ rfl rfl hl.1 (Nat.le_of_ble_eq_true rfl) dL_law_1288 ⟨Nat.le_of_ble_eq_true rfl, Nat.le_of_ble_eq_true rfl⟩ hPC hPM hS (fun H locs hPC hPM hS => ?_)
  refine W.eq (g2 := F0 m 1291 ls [.int r]) rfl ?_
  refine lv_aload_n hx hb dL_law_1291 rfl (lv_at hl 2 rfl) ?_
  refine lv_aload_n hx hb dL_law_1292 rfl (lv_at hl 0 rfl) ?_
  refine lv_iload_n hx hb dL_law_1293 rfl (lv_at hl 3 rfl) ?_
  refine lv_iconst (v := 1) hx hb dL_law_1294 (by decide) ?_
  refine lv_iadd hx hb dL_law_1295 ?_
  refine va_sld hx hb hX hbl hbA hS h1 dL_law_1296 ?_
  refine lv_aload_n hx hb dL_law_1297 rfl (lv_at hl 0 rfl) ?_
  refine lv_iload_n hx hb dL_law_1298 rfl (lv_at hl 3 rfl) ?_
  refine lv_iconst (v := 2) hx hb dL_law_1299 (by decide) ?_
  refine lv_iadd hx hb dL_law_1300 ?_
  refine va_sld hx hb hX hbl hbA hS h2 dL_law_1301 ?_
  refine lv_aload_n hx hb dL_law_1302 rfl (lv_at hl 0 rfl) ?_
  refine lv_iload_n hx hb dL_law_1303 rfl (lv_at hl 3 rfl) ?_
  refine lv_iconst (v := 3) hx hb dL_law_1304 (by decide) ?_
  refine lv_iadd hx hb dL_law_1305 ?_
  refine va_sld hx hb hX hbl hbA hS h3 dL_law_1306 ?_
  refine lv_aload_n hx hb dL_law_1307 rfl (lv_at hl 0 rfl) ?_
  refine lv_iload_n hx hb dL_law_1308 rfl (lv_at hl 3 rfl) ?_
  refine lv_iconst (v := 4) hx hb dL_law_1309 (by decide) ?_
  refine lv_iadd hx hb dL_law_1310 ?_
  refine va_sld hx hb hX hbl hbA hS h4 dL_law_1311 ?_
  refine lv_aload_n hx hb dL_law_1312 rfl (lv_at hl 0 rfl) ?_
  refine lv_iload_n hx hb dL_law_1313 rfl (lv_at hl 3 rfl) ?_
  refine lv_iconst (v := 5) hx hb dL_law_1314 (by decide) ?_
  refine lv_iadd hx hb dL_law_1315 ?_
  refine va_sld hx hb hX hbl hbA hS h5 dL_law_1316 ?_
  refine lawM C0 (m_X7_copy e2) rfl k_L_163 S ⟨Nat.le_of_ble_eq_true rfl, Nat.le_of_ble_eq_true rfl⟩ rfl rfl hl.1 (Nat.le_of_ble_eq_true rfl) dL_law_1317 ⟨Nat.le_of_ble_eq_true rfl, Nat.le_of_ble_eq_true rfl⟩ hPC hPM hS (fun H locs hPC hPM hS => ?_)
  refine W.eq (g2 := F0 m 1320 ls [.int r, .int r]) rfl ?_
  refine lv_icmp_eq (tgt := 1479) hx hb dL_law_1320 (by decide) (fun _ => ?_) (fun c9 => absurd rfl c9)
  exact hnx _ _ hR' H locs ls hPC hPM hS (lv_sub hl [0, 1, 2, 3] rfl)

set_option maxRecDepth 100000 in
set_option maxHeartbeats 4000000 in
theorem law_35 (C0 : LStat s D cc a a2 tU adK adV) (S : CallFix p m c code 4 s #[Value.ref b] gtbl RL) (hX : va_X b L xs s s.heap) (hbl : b < s.heap.size) {i : Int32} (h1 : vp_in (i + 1) L) (h2 : vp_in (i + 2) L) (h3 : vp_in (i + 3) L) (h4 : vp_in (i + 4) L) (h5 : vp_in (i + 5) L) (hst : ST_35 Rel) {u v : Mem} (hR : Rel u v) (hnx : ∀ u' v', Rel u' v' → LW p l e s m below meth c b D cc a a2 u' v' 1479 i) : LW p l e s m below meth c b D cc a a2 u v 1325 i := by
  intro H locs ls hPC hPM hS hl
  have hbA : ¬ (fun z : Nat => s.heap.size ≤ z) b := Nat.not_le.mpr hbl
  obtain ⟨hx, hb, hml, hown, hts⟩ := id S
  refine lv_aload_n hx hb dL_law_1325 rfl (lv_at hl 1 rfl) ?_
  refine lv_aload_n hx hb dL_law_1326 rfl (lv_at hl 0 rfl) ?_
  refine lv_iload_n hx hb dL_law_1327 rfl (lv_at hl 3 rfl) ?_
  refine lv_iconst (v := 1) hx hb dL_law_1328 (by decide) ?_
  refine lv_iadd hx hb dL_law_1329 ?_
  refine va_sld hx hb hX hbl hbA hS h1 dL_law_1330 ?_
  obtain ⟨r, u', v', e1, e2, hR'⟩ := hst u v (xs (i + (1 : Int32)).toNatClampNeg) hR
  refine lawC C0 (m_X6_dates e1) rfl k_L_164 S ⟨Nat.le_of_ble_eq_true rfl, Nat.le_of_ble_eq_true rfl⟩ rfl rfl hl.1 (Nat.le_of_ble_eq_true rfl) dL_law_1331 ⟨Nat.le_of_ble_eq_true rfl, Nat.le_of_ble_eq_true rfl⟩ hPC hPM hS (fun H locs hPC hPM hS => ?_)
  refine W.eq (g2 := F0 m 1334 ls [.int r]) rfl ?_
  refine lv_aload_n hx hb dL_law_1334 rfl (lv_at hl 2 rfl) ?_
  refine lv_aload_n hx hb dL_law_1335 rfl (lv_at hl 0 rfl) ?_
  refine lv_iload_n hx hb dL_law_1336 rfl (lv_at hl 3 rfl) ?_
  refine lv_iconst (v := 1) hx hb dL_law_1337 (by decide) ?_
  refine lv_iadd hx hb dL_law_1338 ?_
  refine va_sld hx hb hX hbl hbA hS h1 dL_law_1339 ?_
  refine lawM C0 (m_X7_dates e2) rfl k_L_167 S ⟨Nat.le_of_ble_eq_true rfl, Nat.le_of_ble_eq_true rfl⟩ rfl rfl hl.1 (Nat.le_of_ble_eq_true rfl) dL_law_1340 ⟨Nat.le_of_ble_eq_true rfl, Nat.le_of_ble_eq_true rfl⟩ hPC hPM hS (fun H locs hPC hPM hS => ?_)
  refine W.eq (g2 := F0 m 1343 ls [.int r, .int r]) rfl ?_
  refine lv_icmp_eq (tgt := 1479) hx hb dL_law_1343 (by decide) (fun _ => ?_) (fun c9 => absurd rfl c9)
  exact hnx _ _ hR' H locs ls hPC hPM hS (lv_sub hl [0, 1, 2, 3] rfl)

set_option maxRecDepth 100000 in
set_option maxHeartbeats 4000000 in
theorem law_36 (C0 : LStat s D cc a a2 tU adK adV) (S : CallFix p m c code 4 s #[Value.ref b] gtbl RL) (hX : va_X b L xs s s.heap) (hbl : b < s.heap.size) {i : Int32} (h1 : vp_in (i + 1) L) (h2 : vp_in (i + 2) L) (h3 : vp_in (i + 3) L) (h4 : vp_in (i + 4) L) (h5 : vp_in (i + 5) L) (hst : ST_36 Rel) {u v : Mem} (hR : Rel u v) (hnx : ∀ u' v', Rel u' v' → LW p l e s m below meth c b D cc a a2 u' v' 1479 i) : LW p l e s m below meth c b D cc a a2 u v 1348 i := by
  intro H locs ls hPC hPM hS hl
  have hbA : ¬ (fun z : Nat => s.heap.size ≤ z) b := Nat.not_le.mpr hbl
  obtain ⟨hx, hb, hml, hown, hts⟩ := id S
  refine lv_aload_n hx hb dL_law_1348 rfl (lv_at hl 1 rfl) ?_
  refine lv_aload_n hx hb dL_law_1349 rfl (lv_at hl 0 rfl) ?_
  refine lv_iload_n hx hb dL_law_1350 rfl (lv_at hl 3 rfl) ?_
  refine lv_iconst (v := 1) hx hb dL_law_1351 (by decide) ?_
  refine lv_iadd hx hb dL_law_1352 ?_
  refine va_sld hx hb hX hbl hbA hS h1 dL_law_1353 ?_
  obtain ⟨r, u', v', e1, e2, hR'⟩ := hst u v (xs (i + (1 : Int32)).toNatClampNeg) hR
  refine lawC C0 (m_X6_show e1) rfl k_L_168 S ⟨Nat.le_of_ble_eq_true rfl, Nat.le_of_ble_eq_true rfl⟩ rfl rfl hl.1 (Nat.le_of_ble_eq_true rfl) dL_law_1354 ⟨Nat.le_of_ble_eq_true rfl, Nat.le_of_ble_eq_true rfl⟩ hPC hPM hS (fun H locs hPC hPM hS => ?_)
  refine W.eq (g2 := F0 m 1357 ls [.int r]) rfl ?_
  refine lv_aload_n hx hb dL_law_1357 rfl (lv_at hl 2 rfl) ?_
  refine lv_aload_n hx hb dL_law_1358 rfl (lv_at hl 0 rfl) ?_
  refine lv_iload_n hx hb dL_law_1359 rfl (lv_at hl 3 rfl) ?_
  refine lv_iconst (v := 1) hx hb dL_law_1360 (by decide) ?_
  refine lv_iadd hx hb dL_law_1361 ?_
  refine va_sld hx hb hX hbl hbA hS h1 dL_law_1362 ?_
  refine lawM C0 (m_X7_show e2) rfl k_L_171 S ⟨Nat.le_of_ble_eq_true rfl, Nat.le_of_ble_eq_true rfl⟩ rfl rfl hl.1 (Nat.le_of_ble_eq_true rfl) dL_law_1363 ⟨Nat.le_of_ble_eq_true rfl, Nat.le_of_ble_eq_true rfl⟩ hPC hPM hS (fun H locs hPC hPM hS => ?_)
  refine W.eq (g2 := F0 m 1366 ls [.int r, .int r]) rfl ?_
  refine lv_icmp_eq (tgt := 1479) hx hb dL_law_1366 (by decide) (fun _ => ?_) (fun c9 => absurd rfl c9)
  exact hnx _ _ hR' H locs ls hPC hPM hS (lv_sub hl [0, 1, 2, 3] rfl)

set_option maxRecDepth 100000 in
set_option maxHeartbeats 4000000 in
theorem law_37 (C0 : LStat s D cc a a2 tU adK adV) (S : CallFix p m c code 4 s #[Value.ref b] gtbl RL) (hX : va_X b L xs s s.heap) (hbl : b < s.heap.size) {i : Int32} (h1 : vp_in (i + 1) L) (h2 : vp_in (i + 2) L) (h3 : vp_in (i + 3) L) (h4 : vp_in (i + 4) L) (h5 : vp_in (i + 5) L) (hst : ST_37 Rel) {u v : Mem} (hR : Rel u v) (hnx : ∀ u' v', Rel u' v' → LW p l e s m below meth c b D cc a a2 u' v' 1479 i) : LW p l e s m below meth c b D cc a a2 u v 1371 i := by
  intro H locs ls hPC hPM hS hl
  have hbA : ¬ (fun z : Nat => s.heap.size ≤ z) b := Nat.not_le.mpr hbl
  obtain ⟨hx, hb, hml, hown, hts⟩ := id S
  refine lv_aload_n hx hb dL_law_1371 rfl (lv_at hl 1 rfl) ?_
  refine lv_aload_n hx hb dL_law_1372 rfl (lv_at hl 0 rfl) ?_
  refine lv_iload_n hx hb dL_law_1373 rfl (lv_at hl 3 rfl) ?_
  refine lv_iconst (v := 1) hx hb dL_law_1374 (by decide) ?_
  refine lv_iadd hx hb dL_law_1375 ?_
  refine va_sld hx hb hX hbl hbA hS h1 dL_law_1376 ?_
  obtain ⟨r, u', v', e1, e2, hR'⟩ := hst u v (xs (i + (1 : Int32)).toNatClampNeg) hR
  refine lawC C0 (m_X6_read e1) rfl k_L_172 S ⟨Nat.le_of_ble_eq_true rfl, Nat.le_of_ble_eq_true rfl⟩ rfl rfl hl.1 (Nat.le_of_ble_eq_true rfl) dL_law_1377 ⟨Nat.le_of_ble_eq_true rfl, Nat.le_of_ble_eq_true rfl⟩ hPC hPM hS (fun H locs hPC hPM hS => ?_)
  refine W.eq (g2 := F0 m 1380 ls [.int r]) rfl ?_
  refine lv_aload_n hx hb dL_law_1380 rfl (lv_at hl 2 rfl) ?_
  refine lv_aload_n hx hb dL_law_1381 rfl (lv_at hl 0 rfl) ?_
  refine lv_iload_n hx hb dL_law_1382 rfl (lv_at hl 3 rfl) ?_
  refine lv_iconst (v := 1) hx hb dL_law_1383 (by decide) ?_
  refine lv_iadd hx hb dL_law_1384 ?_
  refine va_sld hx hb hX hbl hbA hS h1 dL_law_1385 ?_
  refine lawM C0 (m_X7_read e2) rfl k_L_175 S ⟨Nat.le_of_ble_eq_true rfl, Nat.le_of_ble_eq_true rfl⟩ rfl rfl hl.1 (Nat.le_of_ble_eq_true rfl) dL_law_1386 ⟨Nat.le_of_ble_eq_true rfl, Nat.le_of_ble_eq_true rfl⟩ hPC hPM hS (fun H locs hPC hPM hS => ?_)
  refine W.eq (g2 := F0 m 1389 ls [.int r, .int r]) rfl ?_
  refine lv_icmp_eq (tgt := 1479) hx hb dL_law_1389 (by decide) (fun _ => ?_) (fun c9 => absurd rfl c9)
  exact hnx _ _ hR' H locs ls hPC hPM hS (lv_sub hl [0, 1, 2, 3] rfl)

set_option maxRecDepth 100000 in
set_option maxHeartbeats 4000000 in
theorem law_38 (C0 : LStat s D cc a a2 tU adK adV) (S : CallFix p m c code 4 s #[Value.ref b] gtbl RL) (hX : va_X b L xs s s.heap) (hbl : b < s.heap.size) {i : Int32} (h1 : vp_in (i + 1) L) (h2 : vp_in (i + 2) L) (h3 : vp_in (i + 3) L) (h4 : vp_in (i + 4) L) (h5 : vp_in (i + 5) L) (hst : ST_38 Rel) {u v : Mem} (hR : Rel u v) (hnx : ∀ u' v', Rel u' v' → LW p l e s m below meth c b D cc a a2 u' v' 1479 i) : LW p l e s m below meth c b D cc a a2 u v 1394 i := by
  intro H locs ls hPC hPM hS hl
  have hbA : ¬ (fun z : Nat => s.heap.size ≤ z) b := Nat.not_le.mpr hbl
  obtain ⟨hx, hb, hml, hown, hts⟩ := id S
  refine lv_aload_n hx hb dL_law_1394 rfl (lv_at hl 1 rfl) ?_
  obtain ⟨r, u', v', e1, e2, hR'⟩ := hst u v  hR
  refine lawC C0 (m_X6_image e1) rfl k_L_176 S ⟨Nat.le_of_ble_eq_true rfl, Nat.le_of_ble_eq_true rfl⟩ rfl rfl hl.1 (Nat.le_of_ble_eq_true rfl) dL_law_1395 ⟨Nat.le_of_ble_eq_true rfl, Nat.le_of_ble_eq_true rfl⟩ hPC hPM hS (fun H locs hPC hPM hS => ?_)
  refine W.eq (g2 := F0 m 1398 ls [.int r]) rfl ?_
  refine lv_aload_n hx hb dL_law_1398 rfl (lv_at hl 2 rfl) ?_
  refine lawM C0 (m_X7_image e2) rfl k_L_179 S ⟨Nat.le_of_ble_eq_true rfl, Nat.le_of_ble_eq_true rfl⟩ rfl rfl hl.1 (Nat.le_of_ble_eq_true rfl) dL_law_1399 ⟨Nat.le_of_ble_eq_true rfl, Nat.le_of_ble_eq_true rfl⟩ hPC hPM hS (fun H locs hPC hPM hS => ?_)
  refine W.eq (g2 := F0 m 1402 ls [.int r, .int r]) rfl ?_
  refine lv_icmp_eq (tgt := 1479) hx hb dL_law_1402 (by decide) (fun _ => ?_) (fun c9 => absurd rfl c9)
  exact hnx _ _ hR' H locs ls hPC hPM hS (lv_sub hl [0, 1, 2, 3] rfl)

set_option maxRecDepth 100000 in
set_option maxHeartbeats 4000000 in
theorem law_39 (C0 : LStat s D cc a a2 tU adK adV) (S : CallFix p m c code 4 s #[Value.ref b] gtbl RL) (hX : va_X b L xs s s.heap) (hbl : b < s.heap.size) {i : Int32} (h1 : vp_in (i + 1) L) (h2 : vp_in (i + 2) L) (h3 : vp_in (i + 3) L) (h4 : vp_in (i + 4) L) (h5 : vp_in (i + 5) L) (hst : ST_39 Rel) {u v : Mem} (hR : Rel u v) (hnx : ∀ u' v', Rel u' v' → LW p l e s m below meth c b D cc a a2 u' v' 1479 i) : LW p l e s m below meth c b D cc a a2 u v 1407 i := by
  intro H locs ls hPC hPM hS hl
  have hbA : ¬ (fun z : Nat => s.heap.size ≤ z) b := Nat.not_le.mpr hbl
  obtain ⟨hx, hb, hml, hown, hts⟩ := id S
  refine lv_aload_n hx hb dL_law_1407 rfl (lv_at hl 1 rfl) ?_
  obtain ⟨r, u', v', e1, e2, hR'⟩ := hst u v  hR
  refine lawC C0 (m_X6_undo e1) rfl k_L_180 S ⟨Nat.le_of_ble_eq_true rfl, Nat.le_of_ble_eq_true rfl⟩ rfl rfl hl.1 (Nat.le_of_ble_eq_true rfl) dL_law_1408 ⟨Nat.le_of_ble_eq_true rfl, Nat.le_of_ble_eq_true rfl⟩ hPC hPM hS (fun H locs hPC hPM hS => ?_)
  refine W.eq (g2 := F0 m 1411 ls [.int r]) rfl ?_
  refine lv_aload_n hx hb dL_law_1411 rfl (lv_at hl 2 rfl) ?_
  refine lawM C0 (m_X7_undo e2) rfl k_L_183 S ⟨Nat.le_of_ble_eq_true rfl, Nat.le_of_ble_eq_true rfl⟩ rfl rfl hl.1 (Nat.le_of_ble_eq_true rfl) dL_law_1412 ⟨Nat.le_of_ble_eq_true rfl, Nat.le_of_ble_eq_true rfl⟩ hPC hPM hS (fun H locs hPC hPM hS => ?_)
  refine W.eq (g2 := F0 m 1415 ls [.int r, .int r]) rfl ?_
  refine lv_icmp_eq (tgt := 1479) hx hb dL_law_1415 (by decide) (fun _ => ?_) (fun c9 => absurd rfl c9)
  exact hnx _ _ hR' H locs ls hPC hPM hS (lv_sub hl [0, 1, 2, 3] rfl)

set_option maxRecDepth 100000 in
set_option maxHeartbeats 4000000 in
theorem law_40 (C0 : LStat s D cc a a2 tU adK adV) (S : CallFix p m c code 4 s #[Value.ref b] gtbl RL) (hX : va_X b L xs s s.heap) (hbl : b < s.heap.size) {i : Int32} (h1 : vp_in (i + 1) L) (h2 : vp_in (i + 2) L) (h3 : vp_in (i + 3) L) (h4 : vp_in (i + 4) L) (h5 : vp_in (i + 5) L) (hst : ST_40 Rel) {u v : Mem} (hR : Rel u v) (hnx : ∀ u' v', Rel u' v' → LW p l e s m below meth c b D cc a a2 u' v' 1479 i) : LW p l e s m below meth c b D cc a a2 u v 1420 i := by
  intro H locs ls hPC hPM hS hl
  have hbA : ¬ (fun z : Nat => s.heap.size ≤ z) b := Nat.not_le.mpr hbl
  obtain ⟨hx, hb, hml, hown, hts⟩ := id S
  refine lv_aload_n hx hb dL_law_1420 rfl (lv_at hl 1 rfl) ?_
  obtain ⟨r, u', v', e1, e2, hR'⟩ := hst u v  hR
  refine lawC C0 (m_X6_tear e1) rfl k_L_184 S ⟨Nat.le_of_ble_eq_true rfl, Nat.le_of_ble_eq_true rfl⟩ rfl rfl hl.1 (Nat.le_of_ble_eq_true rfl) dL_law_1421 ⟨Nat.le_of_ble_eq_true rfl, Nat.le_of_ble_eq_true rfl⟩ hPC hPM hS (fun H locs hPC hPM hS => ?_)
  refine W.eq (g2 := F0 m 1424 ls [.int r]) rfl ?_
  refine lv_aload_n hx hb dL_law_1424 rfl (lv_at hl 2 rfl) ?_
  refine lawM C0 (m_X7_tear e2) rfl k_L_187 S ⟨Nat.le_of_ble_eq_true rfl, Nat.le_of_ble_eq_true rfl⟩ rfl rfl hl.1 (Nat.le_of_ble_eq_true rfl) dL_law_1425 ⟨Nat.le_of_ble_eq_true rfl, Nat.le_of_ble_eq_true rfl⟩ hPC hPM hS (fun H locs hPC hPM hS => ?_)
  refine W.eq (g2 := F0 m 1428 ls [.int r, .int r]) rfl ?_
  refine lv_icmp_eq (tgt := 1479) hx hb dL_law_1428 (by decide) (fun _ => ?_) (fun c9 => absurd rfl c9)
  exact hnx _ _ hR' H locs ls hPC hPM hS (lv_sub hl [0, 1, 2, 3] rfl)

set_option maxRecDepth 100000 in
set_option maxHeartbeats 4000000 in
theorem law_41 (C0 : LStat s D cc a a2 tU adK adV) (S : CallFix p m c code 4 s #[Value.ref b] gtbl RL) (hX : va_X b L xs s s.heap) (hbl : b < s.heap.size) {i : Int32} (h1 : vp_in (i + 1) L) (h2 : vp_in (i + 2) L) (h3 : vp_in (i + 3) L) (h4 : vp_in (i + 4) L) (h5 : vp_in (i + 5) L) (hst : ST_41 Rel) {u v : Mem} (hR : Rel u v) (hnx : ∀ u' v', Rel u' v' → LW p l e s m below meth c b D cc a a2 u' v' 1479 i) : LW p l e s m below meth c b D cc a a2 u v 1433 i := by
  intro H locs ls hPC hPM hS hl
  have hbA : ¬ (fun z : Nat => s.heap.size ≤ z) b := Nat.not_le.mpr hbl
  obtain ⟨hx, hb, hml, hown, hts⟩ := id S
  refine lv_aload_n hx hb dL_law_1433 rfl (lv_at hl 1 rfl) ?_
  refine lv_aload_n hx hb dL_law_1434 rfl (lv_at hl 0 rfl) ?_
  refine lv_iload_n hx hb dL_law_1435 rfl (lv_at hl 3 rfl) ?_
  refine lv_iconst (v := 1) hx hb dL_law_1436 (by decide) ?_
  refine lv_iadd hx hb dL_law_1437 ?_
  refine va_sld hx hb hX hbl hbA hS h1 dL_law_1438 ?_
  obtain ⟨r, u', v', e1, e2, hR'⟩ := hst u v (xs (i + (1 : Int32)).toNatClampNeg) hR
  refine lawC C0 (m_X6_count e1) rfl k_L_188 S ⟨Nat.le_of_ble_eq_true rfl, Nat.le_of_ble_eq_true rfl⟩ rfl rfl hl.1 (Nat.le_of_ble_eq_true rfl) dL_law_1439 ⟨Nat.le_of_ble_eq_true rfl, Nat.le_of_ble_eq_true rfl⟩ hPC hPM hS (fun H locs hPC hPM hS => ?_)
  refine W.eq (g2 := F0 m 1442 ls [.int r]) rfl ?_
  refine lv_aload_n hx hb dL_law_1442 rfl (lv_at hl 2 rfl) ?_
  refine lv_aload_n hx hb dL_law_1443 rfl (lv_at hl 0 rfl) ?_
  refine lv_iload_n hx hb dL_law_1444 rfl (lv_at hl 3 rfl) ?_
  refine lv_iconst (v := 1) hx hb dL_law_1445 (by decide) ?_
  refine lv_iadd hx hb dL_law_1446 ?_
  refine va_sld hx hb hX hbl hbA hS h1 dL_law_1447 ?_
  refine lawM C0 (m_X7_count e2) rfl k_L_191 S ⟨Nat.le_of_ble_eq_true rfl, Nat.le_of_ble_eq_true rfl⟩ rfl rfl hl.1 (Nat.le_of_ble_eq_true rfl) dL_law_1448 ⟨Nat.le_of_ble_eq_true rfl, Nat.le_of_ble_eq_true rfl⟩ hPC hPM hS (fun H locs hPC hPM hS => ?_)
  refine W.eq (g2 := F0 m 1451 ls [.int r, .int r]) rfl ?_
  refine lv_icmp_eq (tgt := 1479) hx hb dL_law_1451 (by decide) (fun _ => ?_) (fun c9 => absurd rfl c9)
  exact hnx _ _ hR' H locs ls hPC hPM hS (lv_sub hl [0, 1, 2, 3] rfl)

set_option maxRecDepth 100000 in
set_option maxHeartbeats 4000000 in
theorem law_42 (C0 : LStat s D cc a a2 tU adK adV) (S : CallFix p m c code 4 s #[Value.ref b] gtbl RL) (hX : va_X b L xs s s.heap) (hbl : b < s.heap.size) {i : Int32} (h1 : vp_in (i + 1) L) (h2 : vp_in (i + 2) L) (h3 : vp_in (i + 3) L) (h4 : vp_in (i + 4) L) (h5 : vp_in (i + 5) L) (hst : ST_42 Rel) {u v : Mem} (hR : Rel u v) (hnx : ∀ u' v', Rel u' v' → LW p l e s m below meth c b D cc a a2 u' v' 1479 i) : LW p l e s m below meth c b D cc a a2 u v 1456 i := by
  intro H locs ls hPC hPM hS hl
  have hbA : ¬ (fun z : Nat => s.heap.size ≤ z) b := Nat.not_le.mpr hbl
  obtain ⟨hx, hb, hml, hown, hts⟩ := id S
  refine lv_aload_n hx hb dL_law_1456 rfl (lv_at hl 1 rfl) ?_
  refine lv_aload_n hx hb dL_law_1457 rfl (lv_at hl 0 rfl) ?_
  refine lv_iload_n hx hb dL_law_1458 rfl (lv_at hl 3 rfl) ?_
  refine lv_iconst (v := 1) hx hb dL_law_1459 (by decide) ?_
  refine lv_iadd hx hb dL_law_1460 ?_
  refine va_sld hx hb hX hbl hbA hS h1 dL_law_1461 ?_
  obtain ⟨r, u', v', e1, e2, hR'⟩ := hst u v (xs (i + (1 : Int32)).toNatClampNeg) hR
  refine lawC C0 (m_X6_status e1) rfl k_L_192 S ⟨Nat.le_of_ble_eq_true rfl, Nat.le_of_ble_eq_true rfl⟩ rfl rfl hl.1 (Nat.le_of_ble_eq_true rfl) dL_law_1462 ⟨Nat.le_of_ble_eq_true rfl, Nat.le_of_ble_eq_true rfl⟩ hPC hPM hS (fun H locs hPC hPM hS => ?_)
  refine W.eq (g2 := F0 m 1465 ls [.int r]) rfl ?_
  refine lv_aload_n hx hb dL_law_1465 rfl (lv_at hl 2 rfl) ?_
  refine lv_aload_n hx hb dL_law_1466 rfl (lv_at hl 0 rfl) ?_
  refine lv_iload_n hx hb dL_law_1467 rfl (lv_at hl 3 rfl) ?_
  refine lv_iconst (v := 1) hx hb dL_law_1468 (by decide) ?_
  refine lv_iadd hx hb dL_law_1469 ?_
  refine va_sld hx hb hX hbl hbA hS h1 dL_law_1470 ?_
  refine lawM C0 (m_X7_status e2) rfl k_L_195 S ⟨Nat.le_of_ble_eq_true rfl, Nat.le_of_ble_eq_true rfl⟩ rfl rfl hl.1 (Nat.le_of_ble_eq_true rfl) dL_law_1471 ⟨Nat.le_of_ble_eq_true rfl, Nat.le_of_ble_eq_true rfl⟩ hPC hPM hS (fun H locs hPC hPM hS => ?_)
  refine W.eq (g2 := F0 m 1474 ls [.int r, .int r]) rfl ?_
  refine lv_icmp_eq (tgt := 1479) hx hb dL_law_1474 (by decide) (fun _ => ?_) (fun c9 => absurd rfl c9)
  exact hnx _ _ hR' H locs ls hPC hPM hS (lv_sub hl [0, 1, 2, 3] rfl)
end
