section
variable {p : Program} {l : Launch} {e : Env} {s : State} {m : MethodId} {below : List Frame} {meth : Method} {c : Code} {b L : Nat} {xs : Nat → Int32} {D : va_G} {cc : Nat → ClassId} {a a2 : Nat → Nat} {tU : Nat} {adK adV : Nat → Nat} {Rel : Mem → Mem → Prop}
set_option maxRecDepth 100000 in
set_option maxHeartbeats 4000000 in
theorem law_0 (C0 : LStat s D cc a a2 tU adK adV) (S : CallFix p m c code 4 s #[Value.ref b] gtbl RL) (hX : va_X b L xs s s.heap) (hbl : b < s.heap.size) {i : Int32} (h1 : vp_in (i + 1) L) (h2 : vp_in (i + 2) L) (h3 : vp_in (i + 3) L) (h4 : vp_in (i + 4) L) (h5 : vp_in (i + 5) L) (hst : ST_0 Rel) {u v : Mem} (hR : Rel u v) (hnx : ∀ u' v', Rel u' v' → LW p l e s m below meth c b D cc a a2 u' v' 1479 i) : LW p l e s m below meth c b D cc a a2 u v 220 i := by
  intro H locs ls hPC hPM hS hl
  have hbA : ¬ (fun z : Nat => s.heap.size ≤ z) b := Nat.not_le.mpr hbl
  obtain ⟨hx, hb, hml, hown, hts⟩ := id S
  refine lv_aload_n hx hb dL_law_220 rfl (lv_at hl 1 rfl) ?_
  refine lv_aload_n hx hb dL_law_221 rfl (lv_at hl 0 rfl) ?_
  refine lv_iload_n hx hb dL_law_222 rfl (lv_at hl 3 rfl) ?_
  refine lv_iconst (v := 1) hx hb dL_law_223 (by decide) ?_
  refine lv_iadd hx hb dL_law_224 ?_
  refine va_sld hx hb hX hbl hbA hS h1 dL_law_225 ?_
  refine lv_aload_n hx hb dL_law_226 rfl (lv_at hl 0 rfl) ?_
  refine lv_iload_n hx hb dL_law_227 rfl (lv_at hl 3 rfl) ?_
  refine lv_iconst (v := 2) hx hb dL_law_228 (by decide) ?_
  refine lv_iadd hx hb dL_law_229 ?_
  refine va_sld hx hb hX hbl hbA hS h2 dL_law_230 ?_
  refine lv_i2l hx hb dL_law_231 rfl ?_
  refine lv_bipush (v := 32) hx hb dL_law_232 (by decide) ?_
  refine lv_lshl hx hb dL_law_234 rfl ?_
  refine lv_aload_n hx hb dL_law_235 rfl (lv_at hl 0 rfl) ?_
  refine lv_iload_n hx hb dL_law_236 rfl (lv_at hl 3 rfl) ?_
  refine lv_iconst (v := 3) hx hb dL_law_237 (by decide) ?_
  refine lv_iadd hx hb dL_law_238 ?_
  refine va_sld hx hb hX hbl hbA hS h3 dL_law_239 ?_
  refine lv_i2l hx hb dL_law_240 rfl ?_
  refine lv_ldc2 hx hb hown (hts _ q1346) dL_law_241 ?_
  refine lv_land hx hb dL_law_244 ?_
  refine lv_lor hx hb dL_law_245 ?_
  obtain ⟨r, u', v', e1, e2, hR'⟩ := hst u v (xs (i + (1 : Int32)).toNatClampNeg) (((xs (i + (2 : Int32)).toNatClampNeg).toInt64 <<< ((32 : Int32).toInt64 &&& 63)) ||| ((xs (i + (3 : Int32)).toNatClampNeg).toInt64 &&& (4294967295 : Int64))) hR
  refine lawC C0 (m_X6_print e1) rfl k_L_15 S ⟨Nat.le_of_ble_eq_true rfl, Nat.le_of_ble_eq_true rfl⟩ rfl rfl hl.1 (Nat.le_of_ble_eq_true rfl) dL_law_246 ⟨Nat.le_of_ble_eq_true rfl, Nat.le_of_ble_eq_true rfl⟩ hPC hPM hS (fun H locs hPC hPM hS => ?_)
  refine W.eq (g2 := F0 m 249 ls [.int r]) rfl ?_
  refine lv_aload_n hx hb dL_law_249 rfl (lv_at hl 2 rfl) ?_
  refine lv_aload_n hx hb dL_law_250 rfl (lv_at hl 0 rfl) ?_
  refine lv_iload_n hx hb dL_law_251 rfl (lv_at hl 3 rfl) ?_
  refine lv_iconst (v := 1) hx hb dL_law_252 (by decide) ?_
  refine lv_iadd hx hb dL_law_253 ?_
  refine va_sld hx hb hX hbl hbA hS h1 dL_law_254 ?_
  refine lv_aload_n hx hb dL_law_255 rfl (lv_at hl 0 rfl) ?_
  refine lv_iload_n hx hb dL_law_256 rfl (lv_at hl 3 rfl) ?_
  refine lv_iconst (v := 2) hx hb dL_law_257 (by decide) ?_
  refine lv_iadd hx hb dL_law_258 ?_
  refine va_sld hx hb hX hbl hbA hS h2 dL_law_259 ?_
  refine lv_i2l hx hb dL_law_260 rfl ?_
  refine lv_bipush (v := 32) hx hb dL_law_261 (by decide) ?_
  refine lv_lshl hx hb dL_law_263 rfl ?_
  refine lv_aload_n hx hb dL_law_264 rfl (lv_at hl 0 rfl) ?_
  refine lv_iload_n hx hb dL_law_265 rfl (lv_at hl 3 rfl) ?_
  refine lv_iconst (v := 3) hx hb dL_law_266 (by decide) ?_
  refine lv_iadd hx hb dL_law_267 ?_
  refine va_sld hx hb hX hbl hbA hS h3 dL_law_268 ?_
  refine lv_i2l hx hb dL_law_269 rfl ?_
  refine lv_ldc2 hx hb hown (hts _ q1346) dL_law_270 ?_
  refine lv_land hx hb dL_law_273 ?_
  refine lv_lor hx hb dL_law_274 ?_
  refine lawM C0 (m_X7_print e2) rfl k_L_19 S ⟨Nat.le_of_ble_eq_true rfl, Nat.le_of_ble_eq_true rfl⟩ rfl rfl hl.1 (Nat.le_of_ble_eq_true rfl) dL_law_275 ⟨Nat.le_of_ble_eq_true rfl, Nat.le_of_ble_eq_true rfl⟩ hPC hPM hS (fun H locs hPC hPM hS => ?_)
  refine W.eq (g2 := F0 m 278 ls [.int r, .int r]) rfl ?_
  refine lv_icmp_eq (tgt := 1479) hx hb dL_law_278 (by decide) (fun _ => ?_) (fun c9 => absurd rfl c9)
  exact hnx _ _ hR' H locs ls hPC hPM hS (lv_sub hl [0, 1, 2, 3] rfl)

set_option maxRecDepth 100000 in
set_option maxHeartbeats 4000000 in
theorem law_1 (C0 : LStat s D cc a a2 tU adK adV) (S : CallFix p m c code 4 s #[Value.ref b] gtbl RL) (hX : va_X b L xs s s.heap) (hbl : b < s.heap.size) {i : Int32} (h1 : vp_in (i + 1) L) (h2 : vp_in (i + 2) L) (h3 : vp_in (i + 3) L) (h4 : vp_in (i + 4) L) (h5 : vp_in (i + 5) L) (hst : ST_1 Rel) {u v : Mem} (hR : Rel u v) (hnx : ∀ u' v', Rel u' v' → LW p l e s m below meth c b D cc a a2 u' v' 1479 i) : LW p l e s m below meth c b D cc a a2 u v 283 i := by
  intro H locs ls hPC hPM hS hl
  have hbA : ¬ (fun z : Nat => s.heap.size ≤ z) b := Nat.not_le.mpr hbl
  obtain ⟨hx, hb, hml, hown, hts⟩ := id S
  refine lv_aload_n hx hb dL_law_283 rfl (lv_at hl 1 rfl) ?_
  refine lv_aload_n hx hb dL_law_284 rfl (lv_at hl 0 rfl) ?_
  refine lv_iload_n hx hb dL_law_285 rfl (lv_at hl 3 rfl) ?_
  refine lv_iconst (v := 1) hx hb dL_law_286 (by decide) ?_
  refine lv_iadd hx hb dL_law_287 ?_
  refine va_sld hx hb hX hbl hbA hS h1 dL_law_288 ?_
  refine lv_aload_n hx hb dL_law_289 rfl (lv_at hl 0 rfl) ?_
  refine lv_iload_n hx hb dL_law_290 rfl (lv_at hl 3 rfl) ?_
  refine lv_iconst (v := 2) hx hb dL_law_291 (by decide) ?_
  refine lv_iadd hx hb dL_law_292 ?_
  refine va_sld hx hb hX hbl hbA hS h2 dL_law_293 ?_
  obtain ⟨r, u', v', e1, e2, hR'⟩ := hst u v (xs (i + (1 : Int32)).toNatClampNeg) (xs (i + (2 : Int32)).toNatClampNeg) hR
  refine lawC C0 (m_X6_of e1) rfl k_L_20 S ⟨Nat.le_of_ble_eq_true rfl, Nat.le_of_ble_eq_true rfl⟩ rfl rfl hl.1 (Nat.le_of_ble_eq_true rfl) dL_law_294 ⟨Nat.le_of_ble_eq_true rfl, Nat.le_of_ble_eq_true rfl⟩ hPC hPM hS (fun H locs hPC hPM hS => ?_)
  refine W.eq (g2 := F0 m 297 ls [.int r]) rfl ?_
  refine lv_aload_n hx hb dL_law_297 rfl (lv_at hl 2 rfl) ?_
  refine lv_aload_n hx hb dL_law_298 rfl (lv_at hl 0 rfl) ?_
  refine lv_iload_n hx hb dL_law_299 rfl (lv_at hl 3 rfl) ?_
  refine lv_iconst (v := 1) hx hb dL_law_300 (by decide) ?_
  refine lv_iadd hx hb dL_law_301 ?_
  refine va_sld hx hb hX hbl hbA hS h1 dL_law_302 ?_
  refine lv_aload_n hx hb dL_law_303 rfl (lv_at hl 0 rfl) ?_
  refine lv_iload_n hx hb dL_law_304 rfl (lv_at hl 3 rfl) ?_
  refine lv_iconst (v := 2) hx hb dL_law_305 (by decide) ?_
  refine lv_iadd hx hb dL_law_306 ?_
  refine va_sld hx hb hX hbl hbA hS h2 dL_law_307 ?_
  refine lawM C0 (m_X7_of e2) rfl k_L_24 S ⟨Nat.le_of_ble_eq_true rfl, Nat.le_of_ble_eq_true rfl⟩ rfl rfl hl.1 (Nat.le_of_ble_eq_true rfl) dL_law_308 ⟨Nat.le_of_ble_eq_true rfl, Nat.le_of_ble_eq_true rfl⟩ hPC hPM hS (fun H locs hPC hPM hS => ?_)
  refine W.eq (g2 := F0 m 311 ls [.int r, .int r]) rfl ?_
  refine lv_icmp_eq (tgt := 1479) hx hb dL_law_311 (by decide) (fun _ => ?_) (fun c9 => absurd rfl c9)
  exact hnx _ _ hR' H locs ls hPC hPM hS (lv_sub hl [0, 1, 2, 3] rfl)

set_option maxRecDepth 100000 in
set_option maxHeartbeats 4000000 in
theorem law_2 (C0 : LStat s D cc a a2 tU adK adV) (S : CallFix p m c code 4 s #[Value.ref b] gtbl RL) (hX : va_X b L xs s s.heap) (hbl : b < s.heap.size) {i : Int32} (h1 : vp_in (i + 1) L) (h2 : vp_in (i + 2) L) (h3 : vp_in (i + 3) L) (h4 : vp_in (i + 4) L) (h5 : vp_in (i + 5) L) (hst : ST_2 Rel) {u v : Mem} (hR : Rel u v) (hnx : ∀ u' v', Rel u' v' → LW p l e s m below meth c b D cc a a2 u' v' 1479 i) : LW p l e s m below meth c b D cc a a2 u v 316 i := by
  intro H locs ls hPC hPM hS hl
  have hbA : ¬ (fun z : Nat => s.heap.size ≤ z) b := Nat.not_le.mpr hbl
  obtain ⟨hx, hb, hml, hown, hts⟩ := id S
  refine lv_aload_n hx hb dL_law_316 rfl (lv_at hl 1 rfl) ?_
  refine lv_aload_n hx hb dL_law_317 rfl (lv_at hl 0 rfl) ?_
  refine lv_iload_n hx hb dL_law_318 rfl (lv_at hl 3 rfl) ?_
  refine lv_iconst (v := 1) hx hb dL_law_319 (by decide) ?_
  refine lv_iadd hx hb dL_law_320 ?_
  refine va_sld hx hb hX hbl hbA hS h1 dL_law_321 ?_
  refine lv_aload_n hx hb dL_law_322 rfl (lv_at hl 0 rfl) ?_
  refine lv_iload_n hx hb dL_law_323 rfl (lv_at hl 3 rfl) ?_
  refine lv_iconst (v := 2) hx hb dL_law_324 (by decide) ?_
  refine lv_iadd hx hb dL_law_325 ?_
  refine va_sld hx hb hX hbl hbA hS h2 dL_law_326 ?_
  obtain ⟨r, u', v', e1, e2, hR'⟩ := hst u v (xs (i + (1 : Int32)).toNatClampNeg) (xs (i + (2 : Int32)).toNatClampNeg) hR
  refine lawC C0 (m_X6_marks e1) rfl k_L_25 S ⟨Nat.le_of_ble_eq_true rfl, Nat.le_of_ble_eq_true rfl⟩ rfl rfl hl.1 (Nat.le_of_ble_eq_true rfl) dL_law_327 ⟨Nat.le_of_ble_eq_true rfl, Nat.le_of_ble_eq_true rfl⟩ hPC hPM hS (fun H locs hPC hPM hS => ?_)
  refine W.eq (g2 := F0 m 330 ls [.long r]) rfl ?_
  refine lv_aload_n hx hb dL_law_330 rfl (lv_at hl 2 rfl) ?_
  refine lv_aload_n hx hb dL_law_331 rfl (lv_at hl 0 rfl) ?_
  refine lv_iload_n hx hb dL_law_332 rfl (lv_at hl 3 rfl) ?_
  refine lv_iconst (v := 1) hx hb dL_law_333 (by decide) ?_
  refine lv_iadd hx hb dL_law_334 ?_
  refine va_sld hx hb hX hbl hbA hS h1 dL_law_335 ?_
  refine lv_aload_n hx hb dL_law_336 rfl (lv_at hl 0 rfl) ?_
  refine lv_iload_n hx hb dL_law_337 rfl (lv_at hl 3 rfl) ?_
  refine lv_iconst (v := 2) hx hb dL_law_338 (by decide) ?_
  refine lv_iadd hx hb dL_law_339 ?_
  refine va_sld hx hb hX hbl hbA hS h2 dL_law_340 ?_
  refine lawM C0 (m_X7_marks e2) rfl k_L_29 S ⟨Nat.le_of_ble_eq_true rfl, Nat.le_of_ble_eq_true rfl⟩ rfl rfl hl.1 (Nat.le_of_ble_eq_true rfl) dL_law_341 ⟨Nat.le_of_ble_eq_true rfl, Nat.le_of_ble_eq_true rfl⟩ hPC hPM hS (fun H locs hPC hPM hS => ?_)
  refine W.eq (g2 := F0 m 344 ls [.long r, .long r]) rfl ?_
  refine W.lcmp hx hb dL_law_344 ?_
  refine lv_if_eq (tgt := 1479) hx hb dL_law_345 (by decide) (fun _ => ?_) (fun c9 => absurd (lg_self _) c9)
  exact hnx _ _ hR' H locs ls hPC hPM hS (lv_sub hl [0, 1, 2, 3] rfl)

set_option maxRecDepth 100000 in
set_option maxHeartbeats 4000000 in
theorem law_3 (C0 : LStat s D cc a a2 tU adK adV) (S : CallFix p m c code 4 s #[Value.ref b] gtbl RL) (hX : va_X b L xs s s.heap) (hbl : b < s.heap.size) {i : Int32} (h1 : vp_in (i + 1) L) (h2 : vp_in (i + 2) L) (h3 : vp_in (i + 3) L) (h4 : vp_in (i + 4) L) (h5 : vp_in (i + 5) L) (hst : ST_3 Rel) {u v : Mem} (hR : Rel u v) (hnx : ∀ u' v', Rel u' v' → LW p l e s m below meth c b D cc a a2 u' v' 1479 i) : LW p l e s m below meth c b D cc a a2 u v 350 i := by
  intro H locs ls hPC hPM hS hl
  have hbA : ¬ (fun z : Nat => s.heap.size ≤ z) b := Nat.not_le.mpr hbl
  obtain ⟨hx, hb, hml, hown, hts⟩ := id S
  refine lv_aload_n hx hb dL_law_350 rfl (lv_at hl 1 rfl) ?_
  refine lv_aload_n hx hb dL_law_351 rfl (lv_at hl 0 rfl) ?_
  refine lv_iload_n hx hb dL_law_352 rfl (lv_at hl 3 rfl) ?_
  refine lv_iconst (v := 1) hx hb dL_law_353 (by decide) ?_
  refine lv_iadd hx hb dL_law_354 ?_
  refine va_sld hx hb hX hbl hbA hS h1 dL_law_355 ?_
  refine lv_aload_n hx hb dL_law_356 rfl (lv_at hl 0 rfl) ?_
  refine lv_iload_n hx hb dL_law_357 rfl (lv_at hl 3 rfl) ?_
  refine lv_iconst (v := 2) hx hb dL_law_358 (by decide) ?_
  refine lv_iadd hx hb dL_law_359 ?_
  refine va_sld hx hb hX hbl hbA hS h2 dL_law_360 ?_
  refine lv_aload_n hx hb dL_law_361 rfl (lv_at hl 0 rfl) ?_
  refine lv_iload_n hx hb dL_law_362 rfl (lv_at hl 3 rfl) ?_
  refine lv_iconst (v := 3) hx hb dL_law_363 (by decide) ?_
  refine lv_iadd hx hb dL_law_364 ?_
  refine va_sld hx hb hX hbl hbA hS h3 dL_law_365 ?_
  obtain ⟨r, u', v', e1, e2, hR'⟩ := hst u v (xs (i + (1 : Int32)).toNatClampNeg) (xs (i + (2 : Int32)).toNatClampNeg) (xs (i + (3 : Int32)).toNatClampNeg) hR
  refine lawC C0 (m_X6_set e1) rfl k_L_30 S ⟨Nat.le_of_ble_eq_true rfl, Nat.le_of_ble_eq_true rfl⟩ rfl rfl hl.1 (Nat.le_of_ble_eq_true rfl) dL_law_366 ⟨Nat.le_of_ble_eq_true rfl, Nat.le_of_ble_eq_true rfl⟩ hPC hPM hS (fun H locs hPC hPM hS => ?_)
  refine W.eq (g2 := F0 m 369 ls [.int r]) rfl ?_
  refine lv_aload_n hx hb dL_law_369 rfl (lv_at hl 2 rfl) ?_
  refine lv_aload_n hx hb dL_law_370 rfl (lv_at hl 0 rfl) ?_
  refine lv_iload_n hx hb dL_law_371 rfl (lv_at hl 3 rfl) ?_
  refine lv_iconst (v := 1) hx hb dL_law_372 (by decide) ?_
  refine lv_iadd hx hb dL_law_373 ?_
  refine va_sld hx hb hX hbl hbA hS h1 dL_law_374 ?_
  refine lv_aload_n hx hb dL_law_375 rfl (lv_at hl 0 rfl) ?_
  refine lv_iload_n hx hb dL_law_376 rfl (lv_at hl 3 rfl) ?_
  refine lv_iconst (v := 2) hx hb dL_law_377 (by decide) ?_
  refine lv_iadd hx hb dL_law_378 ?_
  refine va_sld hx hb hX hbl hbA hS h2 dL_law_379 ?_
  refine lv_aload_n hx hb dL_law_380 rfl (lv_at hl 0 rfl) ?_
  refine lv_iload_n hx hb dL_law_381 rfl (lv_at hl 3 rfl) ?_
  refine lv_iconst (v := 3) hx hb dL_law_382 (by decide) ?_
  refine lv_iadd hx hb dL_law_383 ?_
  refine va_sld hx hb hX hbl hbA hS h3 dL_law_384 ?_
  refine lawM C0 (m_X7_set e2) rfl k_L_34 S ⟨Nat.le_of_ble_eq_true rfl, Nat.le_of_ble_eq_true rfl⟩ rfl rfl hl.1 (Nat.le_of_ble_eq_true rfl) dL_law_385 ⟨Nat.le_of_ble_eq_true rfl, Nat.le_of_ble_eq_true rfl⟩ hPC hPM hS (fun H locs hPC hPM hS => ?_)
  refine W.eq (g2 := F0 m 388 ls [.int r, .int r]) rfl ?_
  refine lv_icmp_eq (tgt := 1479) hx hb dL_law_388 (by decide) (fun _ => ?_) (fun c9 => absurd rfl c9)
  exact hnx _ _ hR' H locs ls hPC hPM hS (lv_sub hl [0, 1, 2, 3] rfl)

set_option maxRecDepth 100000 in
set_option maxHeartbeats 4000000 in
theorem law_4 (C0 : LStat s D cc a a2 tU adK adV) (S : CallFix p m c code 4 s #[Value.ref b] gtbl RL) (hX : va_X b L xs s s.heap) (hbl : b < s.heap.size) {i : Int32} (h1 : vp_in (i + 1) L) (h2 : vp_in (i + 2) L) (h3 : vp_in (i + 3) L) (h4 : vp_in (i + 4) L) (h5 : vp_in (i + 5) L) (hst : ST_4 Rel) {u v : Mem} (hR : Rel u v) (hnx : ∀ u' v', Rel u' v' → LW p l e s m below meth c b D cc a a2 u' v' 1479 i) : LW p l e s m below meth c b D cc a a2 u v 393 i := by
  intro H locs ls hPC hPM hS hl
  have hbA : ¬ (fun z : Nat => s.heap.size ≤ z) b := Nat.not_le.mpr hbl
  obtain ⟨hx, hb, hml, hown, hts⟩ := id S
  refine lv_aload_n hx hb dL_law_393 rfl (lv_at hl 1 rfl) ?_
  refine lv_aload_n hx hb dL_law_394 rfl (lv_at hl 0 rfl) ?_
  refine lv_iload_n hx hb dL_law_395 rfl (lv_at hl 3 rfl) ?_
  refine lv_iconst (v := 1) hx hb dL_law_396 (by decide) ?_
  refine lv_iadd hx hb dL_law_397 ?_
  refine va_sld hx hb hX hbl hbA hS h1 dL_law_398 ?_
  refine lv_aload_n hx hb dL_law_399 rfl (lv_at hl 0 rfl) ?_
  refine lv_iload_n hx hb dL_law_400 rfl (lv_at hl 3 rfl) ?_
  refine lv_iconst (v := 2) hx hb dL_law_401 (by decide) ?_
  refine lv_iadd hx hb dL_law_402 ?_
  refine va_sld hx hb hX hbl hbA hS h2 dL_law_403 ?_
  refine lv_aload_n hx hb dL_law_404 rfl (lv_at hl 0 rfl) ?_
  refine lv_iload_n hx hb dL_law_405 rfl (lv_at hl 3 rfl) ?_
  refine lv_iconst (v := 3) hx hb dL_law_406 (by decide) ?_
  refine lv_iadd hx hb dL_law_407 ?_
  refine va_sld hx hb hX hbl hbA hS h3 dL_law_408 ?_
  refine lv_if_eq (tgt := 416) hx hb dL_law_409 (by decide) (fun c1 => ?_) (fun c1 => ?_)
  · skip
    refine lv_iconst (v := 0) hx hb dL_law_416 (by decide) ?_
    obtain ⟨r, u', v', e1, e2, hR'⟩ := hst u v (xs (i + (1 : Int32)).toNatClampNeg) (xs (i + (2 : Int32)).toNatClampNeg) (0 : Int32) (by decide) hR
    refine lawC C0 (m_X6_scratch e1) rfl k_L_35 S ⟨Nat.le_of_ble_eq_true rfl, Nat.le_of_ble_eq_true rfl⟩ rfl rfl hl.1 (Nat.le_of_ble_eq_true rfl) dL_law_417 ⟨Nat.le_of_ble_eq_true rfl, Nat.le_of_ble_eq_true rfl⟩ hPC hPM hS (fun H locs hPC hPM hS => ?_)
    refine W.eq (g2 := F0 m 420 ls [.int r]) rfl ?_
    refine lv_aload_n hx hb dL_law_420 rfl (lv_at hl 2 rfl) ?_
    refine lv_aload_n hx hb dL_law_421 rfl (lv_at hl 0 rfl) ?_
    refine lv_iload_n hx hb dL_law_422 rfl (lv_at hl 3 rfl) ?_
    refine lv_iconst (v := 1) hx hb dL_law_423 (by decide) ?_
    refine lv_iadd hx hb dL_law_424 ?_
    refine va_sld hx hb hX hbl hbA hS h1 dL_law_425 ?_
    refine lv_aload_n hx hb dL_law_426 rfl (lv_at hl 0 rfl) ?_
    refine lv_iload_n hx hb dL_law_427 rfl (lv_at hl 3 rfl) ?_
    refine lv_iconst (v := 2) hx hb dL_law_428 (by decide) ?_
    refine lv_iadd hx hb dL_law_429 ?_
    refine va_sld hx hb hX hbl hbA hS h2 dL_law_430 ?_
    refine lv_aload_n hx hb dL_law_431 rfl (lv_at hl 0 rfl) ?_
    refine lv_iload_n hx hb dL_law_432 rfl (lv_at hl 3 rfl) ?_
    refine lv_iconst (v := 3) hx hb dL_law_433 (by decide) ?_
    refine lv_iadd hx hb dL_law_434 ?_
    refine va_sld hx hb hX hbl hbA hS h3 dL_law_435 ?_
    refine lv_if_eq (tgt := 443) hx hb dL_law_436 (by decide) (fun _ => ?_) (fun c2 => absurd c1 c2)
    refine lv_iconst (v := 0) hx hb dL_law_443 (by decide) ?_
    refine lawM C0 (m_X7_scratch e2) rfl k_L_39 S ⟨Nat.le_of_ble_eq_true rfl, Nat.le_of_ble_eq_true rfl⟩ rfl rfl hl.1 (Nat.le_of_ble_eq_true rfl) dL_law_444 ⟨Nat.le_of_ble_eq_true rfl, Nat.le_of_ble_eq_true rfl⟩ hPC hPM hS (fun H locs hPC hPM hS => ?_)
    refine W.eq (g2 := F0 m 447 ls [.int r, .int r]) rfl ?_
    refine lv_icmp_eq (tgt := 1479) hx hb dL_law_447 (by decide) (fun _ => ?_) (fun c9 => absurd rfl c9)
    exact hnx _ _ hR' H locs ls hPC hPM hS (lv_sub hl [0, 1, 2, 3] rfl)
  · skip
    refine lv_iconst (v := 1) hx hb dL_law_412 (by decide) ?_
    refine lv_goto (tgt := 417) hx hb dL_law_413 (by decide) ?_
    obtain ⟨r, u', v', e1, e2, hR'⟩ := hst u v (xs (i + (1 : Int32)).toNatClampNeg) (xs (i + (2 : Int32)).toNatClampNeg) (1 : Int32) (by decide) hR
    refine lawC C0 (m_X6_scratch e1) rfl k_L_35 S ⟨Nat.le_of_ble_eq_true rfl, Nat.le_of_ble_eq_true rfl⟩ rfl rfl hl.1 (Nat.le_of_ble_eq_true rfl) dL_law_417 ⟨Nat.le_of_ble_eq_true rfl, Nat.le_of_ble_eq_true rfl⟩ hPC hPM hS (fun H locs hPC hPM hS => ?_)
    refine W.eq (g2 := F0 m 420 ls [.int r]) rfl ?_
    refine lv_aload_n hx hb dL_law_420 rfl (lv_at hl 2 rfl) ?_
    refine lv_aload_n hx hb dL_law_421 rfl (lv_at hl 0 rfl) ?_
    refine lv_iload_n hx hb dL_law_422 rfl (lv_at hl 3 rfl) ?_
    refine lv_iconst (v := 1) hx hb dL_law_423 (by decide) ?_
    refine lv_iadd hx hb dL_law_424 ?_
    refine va_sld hx hb hX hbl hbA hS h1 dL_law_425 ?_
    refine lv_aload_n hx hb dL_law_426 rfl (lv_at hl 0 rfl) ?_
    refine lv_iload_n hx hb dL_law_427 rfl (lv_at hl 3 rfl) ?_
    refine lv_iconst (v := 2) hx hb dL_law_428 (by decide) ?_
    refine lv_iadd hx hb dL_law_429 ?_
    refine va_sld hx hb hX hbl hbA hS h2 dL_law_430 ?_
    refine lv_aload_n hx hb dL_law_431 rfl (lv_at hl 0 rfl) ?_
    refine lv_iload_n hx hb dL_law_432 rfl (lv_at hl 3 rfl) ?_
    refine lv_iconst (v := 3) hx hb dL_law_433 (by decide) ?_
    refine lv_iadd hx hb dL_law_434 ?_
    refine va_sld hx hb hX hbl hbA hS h3 dL_law_435 ?_
    refine lv_if_eq (tgt := 443) hx hb dL_law_436 (by decide) (fun c2 => absurd c2 c1) (fun _ => ?_)
    refine lv_iconst (v := 1) hx hb dL_law_439 (by decide) ?_
    refine lv_goto (tgt := 444) hx hb dL_law_440 (by decide) ?_
    refine lawM C0 (m_X7_scratch e2) rfl k_L_39 S ⟨Nat.le_of_ble_eq_true rfl, Nat.le_of_ble_eq_true rfl⟩ rfl rfl hl.1 (Nat.le_of_ble_eq_true rfl) dL_law_444 ⟨Nat.le_of_ble_eq_true rfl, Nat.le_of_ble_eq_true rfl⟩ hPC hPM hS (fun H locs hPC hPM hS => ?_)
    refine W.eq (g2 := F0 m 447 ls [.int r, .int r]) rfl ?_
    refine lv_icmp_eq (tgt := 1479) hx hb dL_law_447 (by decide) (fun _ => ?_) (fun c9 => absurd rfl c9)
    exact hnx _ _ hR' H locs ls hPC hPM hS (lv_sub hl [0, 1, 2, 3] rfl)

set_option maxRecDepth 100000 in
set_option maxHeartbeats 4000000 in
theorem law_5 (C0 : LStat s D cc a a2 tU adK adV) (S : CallFix p m c code 4 s #[Value.ref b] gtbl RL) (hX : va_X b L xs s s.heap) (hbl : b < s.heap.size) {i : Int32} (h1 : vp_in (i + 1) L) (h2 : vp_in (i + 2) L) (h3 : vp_in (i + 3) L) (h4 : vp_in (i + 4) L) (h5 : vp_in (i + 5) L) (hst : ST_5 Rel) {u v : Mem} (hR : Rel u v) (hnx : ∀ u' v', Rel u' v' → LW p l e s m below meth c b D cc a a2 u' v' 1479 i) : LW p l e s m below meth c b D cc a a2 u v 452 i := by
  intro H locs ls hPC hPM hS hl
  have hbA : ¬ (fun z : Nat => s.heap.size ≤ z) b := Nat.not_le.mpr hbl
  obtain ⟨hx, hb, hml, hown, hts⟩ := id S
  refine lv_aload_n hx hb dL_law_452 rfl (lv_at hl 1 rfl) ?_
  refine lv_aload_n hx hb dL_law_453 rfl (lv_at hl 0 rfl) ?_
  refine lv_iload_n hx hb dL_law_454 rfl (lv_at hl 3 rfl) ?_
  refine lv_iconst (v := 1) hx hb dL_law_455 (by decide) ?_
  refine lv_iadd hx hb dL_law_456 ?_
  refine va_sld hx hb hX hbl hbA hS h1 dL_law_457 ?_
  obtain ⟨r, u', v', e1, e2, hR'⟩ := hst u v (xs (i + (1 : Int32)).toNatClampNeg) hR
  refine lawC C0 (m_X6_look e1) rfl k_L_40 S ⟨Nat.le_of_ble_eq_true rfl, Nat.le_of_ble_eq_true rfl⟩ rfl rfl hl.1 (Nat.le_of_ble_eq_true rfl) dL_law_458 ⟨Nat.le_of_ble_eq_true rfl, Nat.le_of_ble_eq_true rfl⟩ hPC hPM hS (fun H locs hPC hPM hS => ?_)
  refine W.eq (g2 := F0 m 461 ls [.int r]) rfl ?_
  refine lv_aload_n hx hb dL_law_461 rfl (lv_at hl 2 rfl) ?_
  refine lv_aload_n hx hb dL_law_462 rfl (lv_at hl 0 rfl) ?_
  refine lv_iload_n hx hb dL_law_463 rfl (lv_at hl 3 rfl) ?_
  refine lv_iconst (v := 1) hx hb dL_law_464 (by decide) ?_
  refine lv_iadd hx hb dL_law_465 ?_
  refine va_sld hx hb hX hbl hbA hS h1 dL_law_466 ?_
  refine lawM C0 (m_X7_look e2) rfl k_L_44 S ⟨Nat.le_of_ble_eq_true rfl, Nat.le_of_ble_eq_true rfl⟩ rfl rfl hl.1 (Nat.le_of_ble_eq_true rfl) dL_law_467 ⟨Nat.le_of_ble_eq_true rfl, Nat.le_of_ble_eq_true rfl⟩ hPC hPM hS (fun H locs hPC hPM hS => ?_)
  refine W.eq (g2 := F0 m 470 ls [.int r, .int r]) rfl ?_
  refine lv_icmp_eq (tgt := 1479) hx hb dL_law_470 (by decide) (fun _ => ?_) (fun c9 => absurd rfl c9)
  exact hnx _ _ hR' H locs ls hPC hPM hS (lv_sub hl [0, 1, 2, 3] rfl)

set_option maxRecDepth 100000 in
set_option maxHeartbeats 4000000 in
theorem law_6 (C0 : LStat s D cc a a2 tU adK adV) (S : CallFix p m c code 4 s #[Value.ref b] gtbl RL) (hX : va_X b L xs s s.heap) (hbl : b < s.heap.size) {i : Int32} (h1 : vp_in (i + 1) L) (h2 : vp_in (i + 2) L) (h3 : vp_in (i + 3) L) (h4 : vp_in (i + 4) L) (h5 : vp_in (i + 5) L) (hst : ST_6 Rel) {u v : Mem} (hR : Rel u v) (hnx : ∀ u' v', Rel u' v' → LW p l e s m below meth c b D cc a a2 u' v' 1479 i) : LW p l e s m below meth c b D cc a a2 u v 475 i := by
  intro H locs ls hPC hPM hS hl
  have hbA : ¬ (fun z : Nat => s.heap.size ≤ z) b := Nat.not_le.mpr hbl
  obtain ⟨hx, hb, hml, hown, hts⟩ := id S
  refine lv_aload_n hx hb dL_law_475 rfl (lv_at hl 1 rfl) ?_
  refine lv_aload_n hx hb dL_law_476 rfl (lv_at hl 0 rfl) ?_
  refine lv_iload_n hx hb dL_law_477 rfl (lv_at hl 3 rfl) ?_
  refine lv_iconst (v := 1) hx hb dL_law_478 (by decide) ?_
  refine lv_iadd hx hb dL_law_479 ?_
  refine va_sld hx hb hX hbl hbA hS h1 dL_law_480 ?_
  refine lv_aload_n hx hb dL_law_481 rfl (lv_at hl 0 rfl) ?_
  refine lv_iload_n hx hb dL_law_482 rfl (lv_at hl 3 rfl) ?_
  refine lv_iconst (v := 2) hx hb dL_law_483 (by decide) ?_
  refine lv_iadd hx hb dL_law_484 ?_
  refine va_sld hx hb hX hbl hbA hS h2 dL_law_485 ?_
  obtain ⟨r, u', v', e1, e2, hR'⟩ := hst u v (xs (i + (1 : Int32)).toNatClampNeg) (xs (i + (2 : Int32)).toNatClampNeg) hR
  refine lawC C0 (m_X6_turn e1) rfl k_L_45 S ⟨Nat.le_of_ble_eq_true rfl, Nat.le_of_ble_eq_true rfl⟩ rfl rfl hl.1 (Nat.le_of_ble_eq_true rfl) dL_law_486 ⟨Nat.le_of_ble_eq_true rfl, Nat.le_of_ble_eq_true rfl⟩ hPC hPM hS (fun H locs hPC hPM hS => ?_)
  refine W.eq (g2 := F0 m 489 ls [.int r]) rfl ?_
  refine lv_aload_n hx hb dL_law_489 rfl (lv_at hl 2 rfl) ?_
  refine lv_aload_n hx hb dL_law_490 rfl (lv_at hl 0 rfl) ?_
  refine lv_iload_n hx hb dL_law_491 rfl (lv_at hl 3 rfl) ?_
  refine lv_iconst (v := 1) hx hb dL_law_492 (by decide) ?_
  refine lv_iadd hx hb dL_law_493 ?_
  refine va_sld hx hb hX hbl hbA hS h1 dL_law_494 ?_
  refine lv_aload_n hx hb dL_law_495 rfl (lv_at hl 0 rfl) ?_
  refine lv_iload_n hx hb dL_law_496 rfl (lv_at hl 3 rfl) ?_
  refine lv_iconst (v := 2) hx hb dL_law_497 (by decide) ?_
  refine lv_iadd hx hb dL_law_498 ?_
  refine va_sld hx hb hX hbl hbA hS h2 dL_law_499 ?_
  refine lawM C0 (m_X7_turn e2) rfl k_L_48 S ⟨Nat.le_of_ble_eq_true rfl, Nat.le_of_ble_eq_true rfl⟩ rfl rfl hl.1 (Nat.le_of_ble_eq_true rfl) dL_law_500 ⟨Nat.le_of_ble_eq_true rfl, Nat.le_of_ble_eq_true rfl⟩ hPC hPM hS (fun H locs hPC hPM hS => ?_)
  refine W.eq (g2 := F0 m 503 ls [.int r, .int r]) rfl ?_
  refine lv_icmp_eq (tgt := 1479) hx hb dL_law_503 (by decide) (fun _ => ?_) (fun c9 => absurd rfl c9)
  exact hnx _ _ hR' H locs ls hPC hPM hS (lv_sub hl [0, 1, 2, 3] rfl)

set_option maxRecDepth 100000 in
set_option maxHeartbeats 4000000 in
theorem law_7 (C0 : LStat s D cc a a2 tU adK adV) (S : CallFix p m c code 4 s #[Value.ref b] gtbl RL) (hX : va_X b L xs s s.heap) (hbl : b < s.heap.size) {i : Int32} (h1 : vp_in (i + 1) L) (h2 : vp_in (i + 2) L) (h3 : vp_in (i + 3) L) (h4 : vp_in (i + 4) L) (h5 : vp_in (i + 5) L) (hst : ST_7 Rel) {u v : Mem} (hR : Rel u v) (hnx : ∀ u' v', Rel u' v' → LW p l e s m below meth c b D cc a a2 u' v' 1479 i) : LW p l e s m below meth c b D cc a a2 u v 508 i := by
  intro H locs ls hPC hPM hS hl
  have hbA : ¬ (fun z : Nat => s.heap.size ≤ z) b := Nat.not_le.mpr hbl
  obtain ⟨hx, hb, hml, hown, hts⟩ := id S
  refine lv_aload_n hx hb dL_law_508 rfl (lv_at hl 1 rfl) ?_
  refine lv_aload_n hx hb dL_law_509 rfl (lv_at hl 0 rfl) ?_
  refine lv_iload_n hx hb dL_law_510 rfl (lv_at hl 3 rfl) ?_
  refine lv_iconst (v := 1) hx hb dL_law_511 (by decide) ?_
  refine lv_iadd hx hb dL_law_512 ?_
  refine va_sld hx hb hX hbl hbA hS h1 dL_law_513 ?_
  refine lv_aload_n hx hb dL_law_514 rfl (lv_at hl 0 rfl) ?_
  refine lv_iload_n hx hb dL_law_515 rfl (lv_at hl 3 rfl) ?_
  refine lv_iconst (v := 2) hx hb dL_law_516 (by decide) ?_
  refine lv_iadd hx hb dL_law_517 ?_
  refine va_sld hx hb hX hbl hbA hS h2 dL_law_518 ?_
  obtain ⟨r, u', v', e1, e2, hR'⟩ := hst u v (xs (i + (1 : Int32)).toNatClampNeg) (xs (i + (2 : Int32)).toNatClampNeg) hR
  refine lawC C0 (m_X6_as e1) rfl k_L_49 S ⟨Nat.le_of_ble_eq_true rfl, Nat.le_of_ble_eq_true rfl⟩ rfl rfl hl.1 (Nat.le_of_ble_eq_true rfl) dL_law_519 ⟨Nat.le_of_ble_eq_true rfl, Nat.le_of_ble_eq_true rfl⟩ hPC hPM hS (fun H locs hPC hPM hS => ?_)
  refine W.eq (g2 := F0 m 522 ls [.int r]) rfl ?_
  refine lv_aload_n hx hb dL_law_522 rfl (lv_at hl 2 rfl) ?_
  refine lv_aload_n hx hb dL_law_523 rfl (lv_at hl 0 rfl) ?_
  refine lv_iload_n hx hb dL_law_524 rfl (lv_at hl 3 rfl) ?_
  refine lv_iconst (v := 1) hx hb dL_law_525 (by decide) ?_
  refine lv_iadd hx hb dL_law_526 ?_
  refine va_sld hx hb hX hbl hbA hS h1 dL_law_527 ?_
  refine lv_aload_n hx hb dL_law_528 rfl (lv_at hl 0 rfl) ?_
  refine lv_iload_n hx hb dL_law_529 rfl (lv_at hl 3 rfl) ?_
  refine lv_iconst (v := 2) hx hb dL_law_530 (by decide) ?_
  refine lv_iadd hx hb dL_law_531 ?_
  refine va_sld hx hb hX hbl hbA hS h2 dL_law_532 ?_
  refine lawM C0 (m_X7_as e2) rfl k_L_52 S ⟨Nat.le_of_ble_eq_true rfl, Nat.le_of_ble_eq_true rfl⟩ rfl rfl hl.1 (Nat.le_of_ble_eq_true rfl) dL_law_533 ⟨Nat.le_of_ble_eq_true rfl, Nat.le_of_ble_eq_true rfl⟩ hPC hPM hS (fun H locs hPC hPM hS => ?_)
  refine W.eq (g2 := F0 m 536 ls [.int r, .int r]) rfl ?_
  refine lv_icmp_eq (tgt := 1479) hx hb dL_law_536 (by decide) (fun _ => ?_) (fun c9 => absurd rfl c9)
  exact hnx _ _ hR' H locs ls hPC hPM hS (lv_sub hl [0, 1, 2, 3] rfl)

set_option maxRecDepth 100000 in
set_option maxHeartbeats 4000000 in
theorem law_8 (C0 : LStat s D cc a a2 tU adK adV) (S : CallFix p m c code 4 s #[Value.ref b] gtbl RL) (hX : va_X b L xs s s.heap) (hbl : b < s.heap.size) {i : Int32} (h1 : vp_in (i + 1) L) (h2 : vp_in (i + 2) L) (h3 : vp_in (i + 3) L) (h4 : vp_in (i + 4) L) (h5 : vp_in (i + 5) L) (hst : ST_8 Rel) {u v : Mem} (hR : Rel u v) (hnx : ∀ u' v', Rel u' v' → LW p l e s m below meth c b D cc a a2 u' v' 1479 i) : LW p l e s m below meth c b D cc a a2 u v 541 i := by
  intro H locs ls hPC hPM hS hl
  have hbA : ¬ (fun z : Nat => s.heap.size ≤ z) b := Nat.not_le.mpr hbl
  obtain ⟨hx, hb, hml, hown, hts⟩ := id S
  refine lv_aload_n hx hb dL_law_541 rfl (lv_at hl 1 rfl) ?_
  refine lv_aload_n hx hb dL_law_542 rfl (lv_at hl 0 rfl) ?_
  refine lv_iload_n hx hb dL_law_543 rfl (lv_at hl 3 rfl) ?_
  refine lv_iconst (v := 1) hx hb dL_law_544 (by decide) ?_
  refine lv_iadd hx hb dL_law_545 ?_
  refine va_sld hx hb hX hbl hbA hS h1 dL_law_546 ?_
  obtain ⟨r, u', v', e1, e2, hR'⟩ := hst u v (xs (i + (1 : Int32)).toNatClampNeg) hR
  refine lawC C0 (m_X6_slack e1) rfl k_L_53 S ⟨Nat.le_of_ble_eq_true rfl, Nat.le_of_ble_eq_true rfl⟩ rfl rfl hl.1 (Nat.le_of_ble_eq_true rfl) dL_law_547 ⟨Nat.le_of_ble_eq_true rfl, Nat.le_of_ble_eq_true rfl⟩ hPC hPM hS (fun H locs hPC hPM hS => ?_)
  refine W.eq (g2 := F0 m 550 ls [.int r]) rfl ?_
  refine lv_aload_n hx hb dL_law_550 rfl (lv_at hl 2 rfl) ?_
  refine lv_aload_n hx hb dL_law_551 rfl (lv_at hl 0 rfl) ?_
  refine lv_iload_n hx hb dL_law_552 rfl (lv_at hl 3 rfl) ?_
  refine lv_iconst (v := 1) hx hb dL_law_553 (by decide) ?_
  refine lv_iadd hx hb dL_law_554 ?_
  refine va_sld hx hb hX hbl hbA hS h1 dL_law_555 ?_
  refine lawM C0 (m_X7_slack e2) rfl k_L_56 S ⟨Nat.le_of_ble_eq_true rfl, Nat.le_of_ble_eq_true rfl⟩ rfl rfl hl.1 (Nat.le_of_ble_eq_true rfl) dL_law_556 ⟨Nat.le_of_ble_eq_true rfl, Nat.le_of_ble_eq_true rfl⟩ hPC hPM hS (fun H locs hPC hPM hS => ?_)
  refine W.eq (g2 := F0 m 559 ls [.int r, .int r]) rfl ?_
  refine lv_icmp_eq (tgt := 1479) hx hb dL_law_559 (by decide) (fun _ => ?_) (fun c9 => absurd rfl c9)
  exact hnx _ _ hR' H locs ls hPC hPM hS (lv_sub hl [0, 1, 2, 3] rfl)

set_option maxRecDepth 100000 in
set_option maxHeartbeats 4000000 in
theorem law_9 (C0 : LStat s D cc a a2 tU adK adV) (S : CallFix p m c code 4 s #[Value.ref b] gtbl RL) (hX : va_X b L xs s s.heap) (hbl : b < s.heap.size) {i : Int32} (h1 : vp_in (i + 1) L) (h2 : vp_in (i + 2) L) (h3 : vp_in (i + 3) L) (h4 : vp_in (i + 4) L) (h5 : vp_in (i + 5) L) (hst : ST_9 Rel) {u v : Mem} (hR : Rel u v) (hnx : ∀ u' v', Rel u' v' → LW p l e s m below meth c b D cc a a2 u' v' 1479 i) : LW p l e s m below meth c b D cc a a2 u v 564 i := by
  intro H locs ls hPC hPM hS hl
  have hbA : ¬ (fun z : Nat => s.heap.size ≤ z) b := Nat.not_le.mpr hbl
  obtain ⟨hx, hb, hml, hown, hts⟩ := id S
  refine lv_aload_n hx hb dL_law_564 rfl (lv_at hl 1 rfl) ?_
  refine lv_aload_n hx hb dL_law_565 rfl (lv_at hl 0 rfl) ?_
  refine lv_iload_n hx hb dL_law_566 rfl (lv_at hl 3 rfl) ?_
  refine lv_iconst (v := 1) hx hb dL_law_567 (by decide) ?_
  refine lv_iadd hx hb dL_law_568 ?_
  refine va_sld hx hb hX hbl hbA hS h1 dL_law_569 ?_
  refine lv_aload_n hx hb dL_law_570 rfl (lv_at hl 0 rfl) ?_
  refine lv_iload_n hx hb dL_law_571 rfl (lv_at hl 3 rfl) ?_
  refine lv_iconst (v := 2) hx hb dL_law_572 (by decide) ?_
  refine lv_iadd hx hb dL_law_573 ?_
  refine va_sld hx hb hX hbl hbA hS h2 dL_law_574 ?_
  obtain ⟨r, u', v', e1, e2, hR'⟩ := hst u v (xs (i + (1 : Int32)).toNatClampNeg) (xs (i + (2 : Int32)).toNatClampNeg) hR
  refine lawC C0 (m_X6_ahead e1) rfl k_L_57 S ⟨Nat.le_of_ble_eq_true rfl, Nat.le_of_ble_eq_true rfl⟩ rfl rfl hl.1 (Nat.le_of_ble_eq_true rfl) dL_law_575 ⟨Nat.le_of_ble_eq_true rfl, Nat.le_of_ble_eq_true rfl⟩ hPC hPM hS (fun H locs hPC hPM hS => ?_)
  refine W.eq (g2 := F0 m 578 ls [.int r]) rfl ?_
  refine lv_aload_n hx hb dL_law_578 rfl (lv_at hl 2 rfl) ?_
  refine lv_aload_n hx hb dL_law_579 rfl (lv_at hl 0 rfl) ?_
  refine lv_iload_n hx hb dL_law_580 rfl (lv_at hl 3 rfl) ?_
  refine lv_iconst (v := 1) hx hb dL_law_581 (by decide) ?_
  refine lv_iadd hx hb dL_law_582 ?_
  refine va_sld hx hb hX hbl hbA hS h1 dL_law_583 ?_
  refine lv_aload_n hx hb dL_law_584 rfl (lv_at hl 0 rfl) ?_
  refine lv_iload_n hx hb dL_law_585 rfl (lv_at hl 3 rfl) ?_
  refine lv_iconst (v := 2) hx hb dL_law_586 (by decide) ?_
  refine lv_iadd hx hb dL_law_587 ?_
  refine va_sld hx hb hX hbl hbA hS h2 dL_law_588 ?_
  refine lawM C0 (m_X7_ahead e2) rfl k_L_60 S ⟨Nat.le_of_ble_eq_true rfl, Nat.le_of_ble_eq_true rfl⟩ rfl rfl hl.1 (Nat.le_of_ble_eq_true rfl) dL_law_589 ⟨Nat.le_of_ble_eq_true rfl, Nat.le_of_ble_eq_true rfl⟩ hPC hPM hS (fun H locs hPC hPM hS => ?_)
  refine W.eq (g2 := F0 m 592 ls [.int r, .int r]) rfl ?_
  refine lv_icmp_eq (tgt := 1479) hx hb dL_law_592 (by decide) (fun _ => ?_) (fun c9 => absurd rfl c9)
  exact hnx _ _ hR' H locs ls hPC hPM hS (lv_sub hl [0, 1, 2, 3] rfl)

set_option maxRecDepth 100000 in
set_option maxHeartbeats 4000000 in
theorem law_10 (C0 : LStat s D cc a a2 tU adK adV) (S : CallFix p m c code 4 s #[Value.ref b] gtbl RL) (hX : va_X b L xs s s.heap) (hbl : b < s.heap.size) {i : Int32} (h1 : vp_in (i + 1) L) (h2 : vp_in (i + 2) L) (h3 : vp_in (i + 3) L) (h4 : vp_in (i + 4) L) (h5 : vp_in (i + 5) L) (hst : ST_10 Rel) {u v : Mem} (hR : Rel u v) (hnx : ∀ u' v', Rel u' v' → LW p l e s m below meth c b D cc a a2 u' v' 1479 i) : LW p l e s m below meth c b D cc a a2 u v 597 i := by
  intro H locs ls hPC hPM hS hl
  have hbA : ¬ (fun z : Nat => s.heap.size ≤ z) b := Nat.not_le.mpr hbl
  obtain ⟨hx, hb, hml, hown, hts⟩ := id S
  refine lv_aload_n hx hb dL_law_597 rfl (lv_at hl 1 rfl) ?_
  refine lv_aload_n hx hb dL_law_598 rfl (lv_at hl 0 rfl) ?_
  refine lv_iload_n hx hb dL_law_599 rfl (lv_at hl 3 rfl) ?_
  refine lv_iconst (v := 1) hx hb dL_law_600 (by decide) ?_
  refine lv_iadd hx hb dL_law_601 ?_
  refine va_sld hx hb hX hbl hbA hS h1 dL_law_602 ?_
  refine lv_aload_n hx hb dL_law_603 rfl (lv_at hl 0 rfl) ?_
  refine lv_iload_n hx hb dL_law_604 rfl (lv_at hl 3 rfl) ?_
  refine lv_iconst (v := 2) hx hb dL_law_605 (by decide) ?_
  refine lv_iadd hx hb dL_law_606 ?_
  refine va_sld hx hb hX hbl hbA hS h2 dL_law_607 ?_
  obtain ⟨r, u', v', e1, e2, hR'⟩ := hst u v (xs (i + (1 : Int32)).toNatClampNeg) (xs (i + (2 : Int32)).toNatClampNeg) hR
  refine lawC C0 (m_X6_order e1) rfl k_L_61 S ⟨Nat.le_of_ble_eq_true rfl, Nat.le_of_ble_eq_true rfl⟩ rfl rfl hl.1 (Nat.le_of_ble_eq_true rfl) dL_law_608 ⟨Nat.le_of_ble_eq_true rfl, Nat.le_of_ble_eq_true rfl⟩ hPC hPM hS (fun H locs hPC hPM hS => ?_)
  refine W.eq (g2 := F0 m 611 ls [.int r]) rfl ?_
  refine lv_aload_n hx hb dL_law_611 rfl (lv_at hl 2 rfl) ?_
  refine lv_aload_n hx hb dL_law_612 rfl (lv_at hl 0 rfl) ?_
  refine lv_iload_n hx hb dL_law_613 rfl (lv_at hl 3 rfl) ?_
  refine lv_iconst (v := 1) hx hb dL_law_614 (by decide) ?_
  refine lv_iadd hx hb dL_law_615 ?_
  refine va_sld hx hb hX hbl hbA hS h1 dL_law_616 ?_
  refine lv_aload_n hx hb dL_law_617 rfl (lv_at hl 0 rfl) ?_
  refine lv_iload_n hx hb dL_law_618 rfl (lv_at hl 3 rfl) ?_
  refine lv_iconst (v := 2) hx hb dL_law_619 (by decide) ?_
  refine lv_iadd hx hb dL_law_620 ?_
  refine va_sld hx hb hX hbl hbA hS h2 dL_law_621 ?_
  refine lawM C0 (m_X7_order e2) rfl k_L_64 S ⟨Nat.le_of_ble_eq_true rfl, Nat.le_of_ble_eq_true rfl⟩ rfl rfl hl.1 (Nat.le_of_ble_eq_true rfl) dL_law_622 ⟨Nat.le_of_ble_eq_true rfl, Nat.le_of_ble_eq_true rfl⟩ hPC hPM hS (fun H locs hPC hPM hS => ?_)
  refine W.eq (g2 := F0 m 625 ls [.int r, .int r]) rfl ?_
  refine lv_icmp_eq (tgt := 1479) hx hb dL_law_625 (by decide) (fun _ => ?_) (fun c9 => absurd rfl c9)
  exact hnx _ _ hR' H locs ls hPC hPM hS (lv_sub hl [0, 1, 2, 3] rfl)

set_option maxRecDepth 100000 in
set_option maxHeartbeats 4000000 in
theorem law_11 (C0 : LStat s D cc a a2 tU adK adV) (S : CallFix p m c code 4 s #[Value.ref b] gtbl RL) (hX : va_X b L xs s s.heap) (hbl : b < s.heap.size) {i : Int32} (h1 : vp_in (i + 1) L) (h2 : vp_in (i + 2) L) (h3 : vp_in (i + 3) L) (h4 : vp_in (i + 4) L) (h5 : vp_in (i + 5) L) (hst : ST_11 Rel) {u v : Mem} (hR : Rel u v) (hnx : ∀ u' v', Rel u' v' → LW p l e s m below meth c b D cc a a2 u' v' 1479 i) : LW p l e s m below meth c b D cc a a2 u v 630 i := by
  intro H locs ls hPC hPM hS hl
  have hbA : ¬ (fun z : Nat => s.heap.size ≤ z) b := Nat.not_le.mpr hbl
  obtain ⟨hx, hb, hml, hown, hts⟩ := id S
  refine lv_aload_n hx hb dL_law_630 rfl (lv_at hl 1 rfl) ?_
  refine lv_aload_n hx hb dL_law_631 rfl (lv_at hl 0 rfl) ?_
  refine lv_iload_n hx hb dL_law_632 rfl (lv_at hl 3 rfl) ?_
  refine lv_iconst (v := 1) hx hb dL_law_633 (by decide) ?_
  refine lv_iadd hx hb dL_law_634 ?_
  refine va_sld hx hb hX hbl hbA hS h1 dL_law_635 ?_
  refine lv_aload_n hx hb dL_law_636 rfl (lv_at hl 0 rfl) ?_
  refine lv_iload_n hx hb dL_law_637 rfl (lv_at hl 3 rfl) ?_
  refine lv_iconst (v := 2) hx hb dL_law_638 (by decide) ?_
  refine lv_iadd hx hb dL_law_639 ?_
  refine va_sld hx hb hX hbl hbA hS h2 dL_law_640 ?_
  obtain ⟨r, u', v', e1, e2, hR'⟩ := hst u v (xs (i + (1 : Int32)).toNatClampNeg) (xs (i + (2 : Int32)).toNatClampNeg) hR
  refine lawC C0 (m_X6_alike e1) rfl k_L_65 S ⟨Nat.le_of_ble_eq_true rfl, Nat.le_of_ble_eq_true rfl⟩ rfl rfl hl.1 (Nat.le_of_ble_eq_true rfl) dL_law_641 ⟨Nat.le_of_ble_eq_true rfl, Nat.le_of_ble_eq_true rfl⟩ hPC hPM hS (fun H locs hPC hPM hS => ?_)
  refine W.eq (g2 := F0 m 644 ls [.int r]) rfl ?_
  refine lv_aload_n hx hb dL_law_644 rfl (lv_at hl 2 rfl) ?_
  refine lv_aload_n hx hb dL_law_645 rfl (lv_at hl 0 rfl) ?_
  refine lv_iload_n hx hb dL_law_646 rfl (lv_at hl 3 rfl) ?_
  refine lv_iconst (v := 1) hx hb dL_law_647 (by decide) ?_
  refine lv_iadd hx hb dL_law_648 ?_
  refine va_sld hx hb hX hbl hbA hS h1 dL_law_649 ?_
  refine lv_aload_n hx hb dL_law_650 rfl (lv_at hl 0 rfl) ?_
  refine lv_iload_n hx hb dL_law_651 rfl (lv_at hl 3 rfl) ?_
  refine lv_iconst (v := 2) hx hb dL_law_652 (by decide) ?_
  refine lv_iadd hx hb dL_law_653 ?_
  refine va_sld hx hb hX hbl hbA hS h2 dL_law_654 ?_
  refine lawM C0 (m_X7_alike e2) rfl k_L_68 S ⟨Nat.le_of_ble_eq_true rfl, Nat.le_of_ble_eq_true rfl⟩ rfl rfl hl.1 (Nat.le_of_ble_eq_true rfl) dL_law_655 ⟨Nat.le_of_ble_eq_true rfl, Nat.le_of_ble_eq_true rfl⟩ hPC hPM hS (fun H locs hPC hPM hS => ?_)
  refine W.eq (g2 := F0 m 658 ls [.int r, .int r]) rfl ?_
  refine lv_icmp_eq (tgt := 1479) hx hb dL_law_658 (by decide) (fun _ => ?_) (fun c9 => absurd rfl c9)
  exact hnx _ _ hR' H locs ls hPC hPM hS (lv_sub hl [0, 1, 2, 3] rfl)

set_option maxRecDepth 100000 in
set_option maxHeartbeats 4000000 in
theorem law_12 (C0 : LStat s D cc a a2 tU adK adV) (S : CallFix p m c code 4 s #[Value.ref b] gtbl RL) (hX : va_X b L xs s s.heap) (hbl : b < s.heap.size) {i : Int32} (h1 : vp_in (i + 1) L) (h2 : vp_in (i + 2) L) (h3 : vp_in (i + 3) L) (h4 : vp_in (i + 4) L) (h5 : vp_in (i + 5) L) (hst : ST_12 Rel) {u v : Mem} (hR : Rel u v) (hnx : ∀ u' v', Rel u' v' → LW p l e s m below meth c b D cc a a2 u' v' 1479 i) : LW p l e s m below meth c b D cc a a2 u v 663 i := by
  intro H locs ls hPC hPM hS hl
  have hbA : ¬ (fun z : Nat => s.heap.size ≤ z) b := Nat.not_le.mpr hbl
  obtain ⟨hx, hb, hml, hown, hts⟩ := id S
  refine lv_aload_n hx hb dL_law_663 rfl (lv_at hl 1 rfl) ?_
  refine lv_aload_n hx hb dL_law_664 rfl (lv_at hl 0 rfl) ?_
  refine lv_iload_n hx hb dL_law_665 rfl (lv_at hl 3 rfl) ?_
  refine lv_iconst (v := 1) hx hb dL_law_666 (by decide) ?_
  refine lv_iadd hx hb dL_law_667 ?_
  refine va_sld hx hb hX hbl hbA hS h1 dL_law_668 ?_
  refine lv_aload_n hx hb dL_law_669 rfl (lv_at hl 0 rfl) ?_
  refine lv_iload_n hx hb dL_law_670 rfl (lv_at hl 3 rfl) ?_
  refine lv_iconst (v := 2) hx hb dL_law_671 (by decide) ?_
  refine lv_iadd hx hb dL_law_672 ?_
  refine va_sld hx hb hX hbl hbA hS h2 dL_law_673 ?_
  obtain ⟨r, u', v', e1, e2, hR'⟩ := hst u v (xs (i + (1 : Int32)).toNatClampNeg) (xs (i + (2 : Int32)).toNatClampNeg) hR
  refine lawC C0 (m_X6_slackFor e1) rfl k_L_69 S ⟨Nat.le_of_ble_eq_true rfl, Nat.le_of_ble_eq_true rfl⟩ rfl rfl hl.1 (Nat.le_of_ble_eq_true rfl) dL_law_674 ⟨Nat.le_of_ble_eq_true rfl, Nat.le_of_ble_eq_true rfl⟩ hPC hPM hS (fun H locs hPC hPM hS => ?_)
  refine W.eq (g2 := F0 m 677 ls [.int r]) rfl ?_
  refine lv_aload_n hx hb dL_law_677 rfl (lv_at hl 2 rfl) ?_
  refine lv_aload_n hx hb dL_law_678 rfl (lv_at hl 0 rfl) ?_
  refine lv_iload_n hx hb dL_law_679 rfl (lv_at hl 3 rfl) ?_
  refine lv_iconst (v := 1) hx hb dL_law_680 (by decide) ?_
  refine lv_iadd hx hb dL_law_681 ?_
  refine va_sld hx hb hX hbl hbA hS h1 dL_law_682 ?_
  refine lv_aload_n hx hb dL_law_683 rfl (lv_at hl 0 rfl) ?_
  refine lv_iload_n hx hb dL_law_684 rfl (lv_at hl 3 rfl) ?_
  refine lv_iconst (v := 2) hx hb dL_law_685 (by decide) ?_
  refine lv_iadd hx hb dL_law_686 ?_
  refine va_sld hx hb hX hbl hbA hS h2 dL_law_687 ?_
  refine lawM C0 (m_X7_slackFor e2) rfl k_L_72 S ⟨Nat.le_of_ble_eq_true rfl, Nat.le_of_ble_eq_true rfl⟩ rfl rfl hl.1 (Nat.le_of_ble_eq_true rfl) dL_law_688 ⟨Nat.le_of_ble_eq_true rfl, Nat.le_of_ble_eq_true rfl⟩ hPC hPM hS (fun H locs hPC hPM hS => ?_)
  refine W.eq (g2 := F0 m 691 ls [.int r, .int r]) rfl ?_
  refine lv_icmp_eq (tgt := 1479) hx hb dL_law_691 (by decide) (fun _ => ?_) (fun c9 => absurd rfl c9)
  exact hnx _ _ hR' H locs ls hPC hPM hS (lv_sub hl [0, 1, 2, 3] rfl)

set_option maxRecDepth 100000 in
set_option maxHeartbeats 4000000 in
theorem law_13 (C0 : LStat s D cc a a2 tU adK adV) (S : CallFix p m c code 4 s #[Value.ref b] gtbl RL) (hX : va_X b L xs s s.heap) (hbl : b < s.heap.size) {i : Int32} (h1 : vp_in (i + 1) L) (h2 : vp_in (i + 2) L) (h3 : vp_in (i + 3) L) (h4 : vp_in (i + 4) L) (h5 : vp_in (i + 5) L) (hst : ST_13 Rel) {u v : Mem} (hR : Rel u v) (hnx : ∀ u' v', Rel u' v' → LW p l e s m below meth c b D cc a a2 u' v' 1479 i) : LW p l e s m below meth c b D cc a a2 u v 696 i := by
  intro H locs ls hPC hPM hS hl
  have hbA : ¬ (fun z : Nat => s.heap.size ≤ z) b := Nat.not_le.mpr hbl
  obtain ⟨hx, hb, hml, hown, hts⟩ := id S
  refine lv_aload_n hx hb dL_law_696 rfl (lv_at hl 1 rfl) ?_
  refine lv_aload_n hx hb dL_law_697 rfl (lv_at hl 0 rfl) ?_
  refine lv_iload_n hx hb dL_law_698 rfl (lv_at hl 3 rfl) ?_
  refine lv_iconst (v := 1) hx hb dL_law_699 (by decide) ?_
  refine lv_iadd hx hb dL_law_700 ?_
  refine va_sld hx hb hX hbl hbA hS h1 dL_law_701 ?_
  refine lv_aload_n hx hb dL_law_702 rfl (lv_at hl 0 rfl) ?_
  refine lv_iload_n hx hb dL_law_703 rfl (lv_at hl 3 rfl) ?_
  refine lv_iconst (v := 2) hx hb dL_law_704 (by decide) ?_
  refine lv_iadd hx hb dL_law_705 ?_
  refine va_sld hx hb hX hbl hbA hS h2 dL_law_706 ?_
  obtain ⟨r, u', v', e1, e2, hR'⟩ := hst u v (xs (i + (1 : Int32)).toNatClampNeg) (xs (i + (2 : Int32)).toNatClampNeg) hR
  refine lawC C0 (m_X6_came e1) rfl k_L_73 S ⟨Nat.le_of_ble_eq_true rfl, Nat.le_of_ble_eq_true rfl⟩ rfl rfl hl.1 (Nat.le_of_ble_eq_true rfl) dL_law_707 ⟨Nat.le_of_ble_eq_true rfl, Nat.le_of_ble_eq_true rfl⟩ hPC hPM hS (fun H locs hPC hPM hS => ?_)
  refine W.eq (g2 := F0 m 710 ls [.int r]) rfl ?_
  refine lv_aload_n hx hb dL_law_710 rfl (lv_at hl 2 rfl) ?_
  refine lv_aload_n hx hb dL_law_711 rfl (lv_at hl 0 rfl) ?_
  refine lv_iload_n hx hb dL_law_712 rfl (lv_at hl 3 rfl) ?_
  refine lv_iconst (v := 1) hx hb dL_law_713 (by decide) ?_
  refine lv_iadd hx hb dL_law_714 ?_
  refine va_sld hx hb hX hbl hbA hS h1 dL_law_715 ?_
  refine lv_aload_n hx hb dL_law_716 rfl (lv_at hl 0 rfl) ?_
  refine lv_iload_n hx hb dL_law_717 rfl (lv_at hl 3 rfl) ?_
  refine lv_iconst (v := 2) hx hb dL_law_718 (by decide) ?_
  refine lv_iadd hx hb dL_law_719 ?_
  refine va_sld hx hb hX hbl hbA hS h2 dL_law_720 ?_
  refine lawM C0 (m_X7_came e2) rfl k_L_76 S ⟨Nat.le_of_ble_eq_true rfl, Nat.le_of_ble_eq_true rfl⟩ rfl rfl hl.1 (Nat.le_of_ble_eq_true rfl) dL_law_721 ⟨Nat.le_of_ble_eq_true rfl, Nat.le_of_ble_eq_true rfl⟩ hPC hPM hS (fun H locs hPC hPM hS => ?_)
  refine W.eq (g2 := F0 m 724 ls [.int r, .int r]) rfl ?_
  refine lv_icmp_eq (tgt := 1479) hx hb dL_law_724 (by decide) (fun _ => ?_) (fun c9 => absurd rfl c9)
  exact hnx _ _ hR' H locs ls hPC hPM hS (lv_sub hl [0, 1, 2, 3] rfl)

set_option maxRecDepth 100000 in
set_option maxHeartbeats 4000000 in
theorem law_14 (C0 : LStat s D cc a a2 tU adK adV) (S : CallFix p m c code 4 s #[Value.ref b] gtbl RL) (hX : va_X b L xs s s.heap) (hbl : b < s.heap.size) {i : Int32} (h1 : vp_in (i + 1) L) (h2 : vp_in (i + 2) L) (h3 : vp_in (i + 3) L) (h4 : vp_in (i + 4) L) (h5 : vp_in (i + 5) L) (hst : ST_14 Rel) {u v : Mem} (hR : Rel u v) (hnx : ∀ u' v', Rel u' v' → LW p l e s m below meth c b D cc a a2 u' v' 1479 i) : LW p l e s m below meth c b D cc a a2 u v 729 i := by
  intro H locs ls hPC hPM hS hl
  have hbA : ¬ (fun z : Nat => s.heap.size ≤ z) b := Nat.not_le.mpr hbl
  obtain ⟨hx, hb, hml, hown, hts⟩ := id S
  refine lv_aload_n hx hb dL_law_729 rfl (lv_at hl 1 rfl) ?_
  refine lv_aload_n hx hb dL_law_730 rfl (lv_at hl 0 rfl) ?_
  refine lv_iload_n hx hb dL_law_731 rfl (lv_at hl 3 rfl) ?_
  refine lv_iconst (v := 1) hx hb dL_law_732 (by decide) ?_
  refine lv_iadd hx hb dL_law_733 ?_
  refine va_sld hx hb hX hbl hbA hS h1 dL_law_734 ?_
  obtain ⟨r, u', v', e1, e2, hR'⟩ := hst u v (xs (i + (1 : Int32)).toNatClampNeg) hR
  refine lawC C0 (m_X6_ring e1) rfl k_L_77 S ⟨Nat.le_of_ble_eq_true rfl, Nat.le_of_ble_eq_true rfl⟩ rfl rfl hl.1 (Nat.le_of_ble_eq_true rfl) dL_law_735 ⟨Nat.le_of_ble_eq_true rfl, Nat.le_of_ble_eq_true rfl⟩ hPC hPM hS (fun H locs hPC hPM hS => ?_)
  refine W.eq (g2 := F0 m 738 ls [.int r]) rfl ?_
  refine lv_aload_n hx hb dL_law_738 rfl (lv_at hl 2 rfl) ?_
  refine lv_aload_n hx hb dL_law_739 rfl (lv_at hl 0 rfl) ?_
  refine lv_iload_n hx hb dL_law_740 rfl (lv_at hl 3 rfl) ?_
  refine lv_iconst (v := 1) hx hb dL_law_741 (by decide) ?_
  refine lv_iadd hx hb dL_law_742 ?_
  refine va_sld hx hb hX hbl hbA hS h1 dL_law_743 ?_
  refine lawM C0 (m_X7_ring e2) rfl k_L_80 S ⟨Nat.le_of_ble_eq_true rfl, Nat.le_of_ble_eq_true rfl⟩ rfl rfl hl.1 (Nat.le_of_ble_eq_true rfl) dL_law_744 ⟨Nat.le_of_ble_eq_true rfl, Nat.le_of_ble_eq_true rfl⟩ hPC hPM hS (fun H locs hPC hPM hS => ?_)
  refine W.eq (g2 := F0 m 747 ls [.int r, .int r]) rfl ?_
  refine lv_icmp_eq (tgt := 1479) hx hb dL_law_747 (by decide) (fun _ => ?_) (fun c9 => absurd rfl c9)
  exact hnx _ _ hR' H locs ls hPC hPM hS (lv_sub hl [0, 1, 2, 3] rfl)
end
