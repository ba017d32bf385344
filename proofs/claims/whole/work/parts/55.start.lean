theorem arr_prim {args : Array Value} {s : State} {ty : FieldType} (hty : ∀ C, ty ≠ .object C) (h : (Cond.arrayClass ty).before args s = true) : ∃ cA, ArrOfT s cA ty ∧ va_RA s cA ty := by
  obtain ⟨c, k, comp, h1, h2, h3⟩ := Cond.arrayClass_spec h
  refine ⟨c, fun n z => ⟨fun k h => (by cases h), k, h2, comp, h3⟩, ?_⟩
  cases ty with
  | object C => exact absurd rfl (hty C)
  | _ => exact h1
theorem arr_obj {args : Array Value} {s : State} {C : String} (h : (Cond.arrayOver (.object C)).before args s = true) : ∃ cA, ArrOfT s cA (.object C) ∧ va_RA s cA (.object C) := by
  obtain ⟨comp, c, k, h1, h2, h3, h4, h5⟩ := Cond.arrayOver_spec h
  exact ⟨c, fun n z => ⟨fun k h => (by cases h), k, h3, comp, h4⟩, k, comp, h3, h4, h1, h5⟩
theorem va_P_left {D : va_G} {cl : List vw_C} {x y : va_W} {H : Heap} (h : va_P D cl (x ++ y) H) : va_P D cl x H := fun k q hq => h k q (by rw [List.getElem?_append_left (List.getElem?_eq_some_iff.mp hq).1]; exact hq)
theorem va_P_right {D : va_G} {cl : List vw_C} {x y : va_W} {H : Heap} (h : va_P D cl (x ++ y) H) : va_P D cl y H := fun k q hq => h (x.length + k) q (app_at k hq)
theorem va_D_left {A : Nat → Prop} {x y : va_W} (h : va_D A (x ++ y)) : va_D A x := ⟨fun i j p q hp hq e => h.1 i j p q (by rw [List.getElem?_append_left (List.getElem?_eq_some_iff.mp hp).1]; exact hp) (by rw [List.getElem?_append_left (List.getElem?_eq_some_iff.mp hq).1]; exact hq) e, fun k q hq => h.2 k q (by rw [List.getElem?_append_left (List.getElem?_eq_some_iff.mp hq).1]; exact hq)⟩
theorem va_D_right {A : Nat → Prop} {x y : va_W} (h : va_D A (x ++ y)) : va_D A y := ⟨fun i j p q hp hq e => by
    have := h.1 (x.length + i) (x.length + j) p q (app_at i hp) (app_at j hq) e
    omega, fun k q hq => h.2 (x.length + k) q (app_at k hq)⟩
theorem va_D_apart {A : Nat → Prop} {x y : va_W} (h : va_D A (x ++ y)) {i j : Nat} {p q : Nat × va_E} (hp : x[i]? = some p) (hq : y[j]? = some q) : p.1 ≠ q.1 := by
  intro e
  have hi := (List.getElem?_eq_some_iff.mp hp).1
  have := h.1 i (x.length + j) p q (by rw [List.getElem?_append_left hi]; exact hp) (app_at j hq) e
  omega
abbrev st_tm (i : Nat) : Term := Term.string RX5 (ix11.getD i 0)
theorem st_0 : ∀ i, i < 11 → len11.getD i 0 < 2 ^ 31 := by decide +kernel
theorem st_1 : ∀ i, i < 11 → Cond.exactly (st_tm i) "java/lang/String" ∈ flatC (Jvm.Cond.and given_1 narrow_1) := by decide +kernel
theorem st_2 : ∀ i, i < 11 → Cond.eq (.field (st_tm i) "java/lang/String" "coder" "B") (.int 0) ∈ flatC (Jvm.Cond.and given_1 narrow_1) := by decide +kernel
theorem st_3 : ∀ i, i < 11 → Cond.arrayOf (.field (st_tm i) "java/lang/String" "value" "[B") .byte ∈ flatC (Jvm.Cond.and given_1 narrow_1) := by decide +kernel
theorem st_4 : ∀ i, i < 11 → Cond.eq (.length (.field (st_tm i) "java/lang/String" "value" "[B")) (.int (Int32.ofNat (len11.getD i 0))) ∈ flatC (Jvm.Cond.and given_1 narrow_1) := by decide +kernel
theorem st_5 : ∀ i, i < 11 → ∀ j, j < len11.getD i 0 → Cond.eq (.elem (.field (st_tm i) "java/lang/String" "value" "[B") (.int (Int32.ofNat j))) (.int ((byt11.getD i []).getD j 0)) ∈ flatC (Jvm.Cond.and given_1 narrow_1) := by decide +kernel
theorem st_6 : ∀ i, i < 11 → ∀ j, j < 11 → i ≠ j → (Cond.not (Cond.eq (st_tm i) (st_tm j)) ∈ flatC (Jvm.Cond.and given_1 narrow_1) ∨ Cond.not (Cond.eq (st_tm j) (st_tm i)) ∈ flatC (Jvm.Cond.and given_1 narrow_1)) := by decide +kernel
theorem st_7 : ∀ i, i < 11 → Cond.stringRef RX5 (ix11.getD i 0) (tx11.getD i "") ∈ lw_tbl := by decide +kernel
theorem st_8 : ∀ j, j < 6 → Cond.eq (.elem (.static RX6 "UNDER" "[I") (.int (Int32.ofNat j))) (.int (un6.getD j 0)) ∈ flatC (Jvm.Cond.and given_1 narrow_1) := by decide +kernel
theorem st_9 : Cond.eq (.length (.static RX6 "UNDER" "[I")) (.int 6) ∈ flatC (Jvm.Cond.and given_1 narrow_1) ∧ Cond.arrayOf (.static RX6 "UNDER" "[I") .int ∈ flatC (Jvm.Cond.and given_1 narrow_1) ∧ Cond.eq (.static RJ0 "COMPACT_STRINGS" "Z") (.int 1) ∈ flatC (Jvm.Cond.and given_1 narrow_1) ∧ Cond.isRef (.static RJ3 "SIOOBE_FORMATTER" "Ljava/util/function/BiFunction;") ∈ flatC (Jvm.Cond.and given_1 narrow_1) := by decide +kernel
theorem ec_start {args : Array Value} {s : State} (hts : ∀ w ∈ lw_tbl, w.before args s = true) (hgv : (Jvm.Cond.and given_1 narrow_1).before args s = true) : ∃ (tU : Nat) (adK adV : Nat → Nat), EC tU adK adV (fun z => s.heap.size ≤ z) s := by
  have hs := flat_of_before _ hgv
  have hA : ∀ a : Nat, a < s.heap.size → ¬ (fun z => s.heap.size ≤ z) a := fun a h => Nat.not_le.mpr h
  have hg : ∀ w ∈ gtbl, w.before args s = true := fun w hw => hts w (List.mem_filter.mp hw).1
  obtain ⟨t, ht, hT⟩ := va_Tof (tm := .static RX6 "UNDER" "[I") (ty := .int) (N := 6) (f := fun j => .int (un6.getD j 0)) (A := fun z => s.heap.size ≤ z) (by decide) (hs _ st_9.2.1) (va_eqt (hs _ st_9.1)) (fun j hj => va_eqt (hs _ (st_8 j hj))) hA
  obtain ⟨adK, adV, hS, hK⟩ := vk_Sof (N := 11) (tm := st_tm) (len := len11) (byt := byt11) (A := fun z => s.heap.size ≤ z) st_0 (fun i hi => hs _ (st_1 i hi)) (fun i hi => hs _ (st_2 i hi)) (fun i hi => hs _ (st_3 i hi)) (fun i hi => hs _ (st_4 i hi)) (fun i hi j hj => hs _ (st_5 i hi j hj)) (fun i j hi hj hne => (st_6 i hi j hj hne).elim (fun h => Or.inl (hs _ h)) (fun h => Or.inr (hs _ h))) hA
  exact ⟨t, adK, adV, va_Zof (hts _ q380) (hg _ q64) ht hA, hT, va_Zof (hts _ q711) (hg _ q75) (va_eqi (hs _ st_9.2.2.1)) hA, va_Zqof (hts _ q727) (hg _ q77) (hs _ st_9.2.2.2) hA, hS, fun i hi => vk_R.of (hts _ (st_7 i hi)) (hK i hi), va_Nw.of rfl (hts _ q602)⟩
theorem k_L_9 : CI RL 9 yX6_init cX6_init 2 0 := ⟨⟨q82, q83, q64, q84⟩, rfl, by decide, by decide, by decide +kernel⟩
theorem k_L_12 : CI RL 12 yX7_init cX7_init 1 0 := ⟨⟨q875, q876, q71, q877⟩, rfl, by decide, by decide, by decide +kernel⟩
set_option maxRecDepth 100000 in
set_option maxHeartbeats 8000000 in
theorem law_start {p : Program} {e : Env} {s : State} {m : MethodId} {below : List Frame} {meth : Method} {c : Code} (l : Launch) {b L : Nat} {xs : Nat → Int32} (hL : L ≤ 3072) (C0 : lw_At p s m meth c b L xs) {Rel : Mem → Mem → Prop} (h0 : Rel u0C u0M) (hst : STA Rel) : W p l e room_1 s m #[Value.ref b] below meth c s.heap [] 0 0 (lw_Z below #[Value.ref b] s) (entryFrame m ([Value.ref b] : List Value).toArray 4) := by
  obtain ⟨hx, hb, hr, hml, hown, hts0, hX, hbl, hlocks, hgv⟩ := id C0
  have hg : ∀ w ∈ gtbl, w.before #[Value.ref b] s = true := fun w hw => hts0 w (List.mem_filter.mp hw).1
  have S : CallFix p m c code 4 s #[Value.ref b] gtbl RL := ⟨hx, hb, hml, hown, hg⟩
  have hts := hg
  obtain ⟨tU, adK, adV, hE⟩ := ec_start hts0 hgv
  have hA : ∀ q : Nat, s.heap.size ≤ q → (fun z : Nat => s.heap.size ≤ z) q := fun _ h => h
  obtain ⟨c0, iS0, hKn0⟩ := u_known (C := RX0) (T := TX0) (N := 3) (n := 3) hg igX0 (hg (.instantiable RX0 3) q89)
  obtain ⟨c1, iS1, hKn1⟩ := u_known (C := RX1) (T := TX1) (N := 5) (n := 5) hg igX1 (hg (.instantiable RX1 5) q96)
  obtain ⟨c2, iS2, hKn2⟩ := u_known (C := RX2) (T := TX2) (N := 11) (n := 11) hg igX2 (hg (.instantiable RX2 11) q153)
  obtain ⟨c3, iS3, hKn3⟩ := u_known (C := RX3) (T := TX3) (N := 3) (n := 3) hg igX3 (hg (.instantiable RX3 3) q240)
  obtain ⟨c4, iS4, hKn4⟩ := u_known (C := RX4) (T := TX4) (N := 2) (n := 2) hg igX4 (hg (.instantiable RX4 2) q194)
  obtain ⟨c5, iS5, hKn5⟩ := u_known (C := RX5) (T := TX5) (N := 7) (n := 7) hg igX5 (hg (.instantiable RX5 7) q209)
  obtain ⟨c6, iS6, hKn6⟩ := u_known (C := RX6) (T := TX6) (N := 8) (n := 8) hg igX6 (hg (.instantiable RX6 8) q81)
  obtain ⟨c7, iS7, hKn7⟩ := u_known (C := RX7) (T := TX7) (N := 25) (n := 25) hg igX7 (hg (.instantiable RX7 25) q874)
  obtain ⟨dC, dI, hKc⟩ : ∃ (dC : Nat → ClassId) (dI : Nat → Nat → Nat), ∀ (k : Nat) (q : vw_C), vwCl[k]? = some q → u_Kn s q.1 q.2.1 q.2.2 (dC k) (dI k) := by
    refine ⟨fun k => if k = 0 then c0 else if k = 1 then c1 else if k = 2 then c2 else if k = 3 then c3 else if k = 4 then c4 else if k = 5 then c5 else if k = 6 then c6 else c7, fun k => if k = 0 then iS0 else if k = 1 then iS1 else if k = 2 then iS2 else if k = 3 then iS3 else if k = 4 then iS4 else if k = 5 then iS5 else if k = 6 then iS6 else iS7, ?_⟩
    intro k q hq
    match k, hq with
    | 0, hq => cases hq; exact hKn0
    | 1, hq => cases hq; exact hKn1
    | 2, hq => cases hq; exact hKn2
    | 3, hq => cases hq; exact hKn3
    | 4, hq => cases hq; exact hKn4
    | 5, hq => cases hq; exact hKn5
    | 6, hq => cases hq; exact hKn6
    | 7, hq => cases hq; exact hKn7
    | k + 8, hq => simp [vwCl] at hq
  obtain ⟨cI, aI⟩ := arr_prim (ty := .int) (fun _ h => by cases h) (hg _ q192)
  obtain ⟨cJ, aJ⟩ := arr_prim (ty := .long) (fun _ h => by cases h) (hg _ q258)
  obtain ⟨cZ, aZ⟩ := arr_prim (ty := .boolean) (fun _ h => by cases h) (hg _ q955)
  have ov1 := hts0 _ q95
  have ov3 := hts0 _ q239
  obtain ⟨cP, aP⟩ := arr_obj (C := RX1) ov1
  obtain ⟨cS, aS⟩ := arr_obj (C := RX3) ov3
  obtain ⟨cc, ecI, ecJ, ecP, ecS, ecZ⟩ : ∃ cc : Nat → ClassId, cc 0 = cI ∧ cc 1 = cJ ∧ cc 2 = cP ∧ cc 3 = cS ∧ cc 4 = cZ := ⟨fun k => if k = 0 then cI else if k = 1 then cJ else if k = 2 then cP else if k = 3 then cS else cZ, rfl, rfl, rfl, rfl, rfl⟩
  subst ecI; subst ecJ; subst ecP; subst ecS; subst ecZ
  have hK : va_K (dC, dI) vwCl ([(cc 0, .int), (cc 1, .long), (cc 2, .object RX1), (cc 3, .object RX3), (cc 4, .boolean)]) s := by
    refine ⟨hKc, fun k q h => ?_⟩
    match k, h with
    | 0, h => cases h; exact aI
    | 1, h => cases h; exact aJ
    | 2, h => cases h; exact aP
    | 3, h => cases h; exact aS
    | 4, h => cases h; exact aZ
    | k + 5, h => simp at h
  have ha1 : va_AO RX1 s := va_AO.of ov1
  have ha3 : va_AO RX3 s := va_AO.of ov3
  have hS : va_S (fun z : Nat => s.heap.size ≤ z) s.heap s.heap [] := va_S.rf
  have hP : va_P (dC, dI) vwCl (([] : va_W) ++ []) s.heap := fun k q h => by simp at h
  have hD : va_D (fun z : Nat => s.heap.size ≤ z) (([] : va_W) ++ []) := ⟨fun i j p q h => by simp at h, fun k q h => by simp at h⟩
  have hl := lv_entry ([.ref b]) (n := 4) (Nat.le_of_ble_eq_true rfl)
  rw [lg_entry_eq]
  generalize (lg_sl ([.ref b]) ++ List.replicate (4 - (lg_sl ([.ref b])).length) Slot.unset).toArray = ls at hl ⊢
  have hl : lv_has ls 4 [(0, .ref b)] := hl
  refine nNew (rest := []) (l0 := []) (ci := 6) (fs := [.null, .null, .null, .null, .null, .null, .null, .int 0]) S igX6 tyX6 tyX6_ok q80 q81 q64 hK hP hD hS hA rfl dfX6 (Nat.le_of_ble_eq_true rfl) (Nat.le_of_ble_eq_true rfl) dL_law_0 (fun q0 H hP hD hS => ?_)
  refine lv_dup hx hb dL_law_3 rfl ?_
  refine MN.callI (mn_X6 (rest := []) (h0 := q0)) k_L_9 S hA hK ha1 ha3 ⟨Nat.le_of_ble_eq_true rfl, Nat.le_of_ble_eq_true rfl⟩ rfl rfl hl.1 (Nat.le_of_ble_eq_true rfl) dL_law_4 ⟨Nat.le_of_ble_eq_true rfl, Nat.le_of_ble_eq_true rfl⟩ hP hD hS (fun w2 H locs hB hP hD hS => ?_)
  obtain ⟨q1, f2, q3, f4, q5, f6, q7, q8, q9, q10, f11, q12, q13, q14, q15, q16, q17, q18, q19, q20, q21, rfl⟩ := hB
  obtain ⟨w6, hw6⟩ : ∃ w6 : va_W, w6 = [(q0, .inr (6, [.ref q1, .ref q3, .ref q5, .ref q7, .ref q9, .ref q12, .ref q21, .int 0]))] ++ (arW (cc 2) q1 f2 ++ (arW (cc 2) q3 f4 ++ (riW cc q5 q1 f6 ++ ([(q7, .inr (4, [.ref q8, .int 0])), (q8, .inl (cc 0, 120, .inl (fun _ => 0))), (q9, .inr (5, [.ref q7, .ref q1, .ref q10, .int 0, .int 0, .int 0, .int 0]))] ++ (arW (cc 2) q10 f11 ++ ([(q12, .inl (cc 3, 4, .inr (.inr (.inr (.inr (va_up (va_up (va_up (va_up (fun _ => none) 0 (some q13)) 1 (some q15)) 2 (some q17)) 3 (some q19))))))), (q13, .inr (3, [.ref q14, .int 0, .int 0])), (q14, .inl (cc 1, 40, .inr (.inl (fun _ => 0)))), (q15, .inr (3, [.ref q16, .int 0, .int 0])), (q16, .inl (cc 1, 40, .inr (.inl (fun _ => 0)))), (q17, .inr (3, [.ref q18, .int 0, .int 0])), (q18, .inl (cc 1, 40, .inr (.inl (fun _ => 0)))), (q19, .inr (3, [.ref q20, .int 0, .int 0])), (q20, .inl (cc 1, 40, .inr (.inl (fun _ => 0)))), (q21, .inl (cc 0, 7, .inl (fun _ => 0)))])))))) := ⟨_, rfl⟩
  have hP : va_P (dC, dI) vwCl (w6 ++ []) H := by rw [List.append_nil, hw6]; exact hP
  have hD : va_D (fun z : Nat => s.heap.size ≤ z) (w6 ++ []) := by rw [List.append_nil, hw6]; exact hD
  refine lv_astore_n (lv' := [(1, .ref _), (0, .ref _)]) hx hb dL_law_7 rfl hl (by decide) rfl (fun ls hl => ?_)
  refine nNew (rest := w6) (l0 := []) (ci := 7) (fs := [.null, .null, .null, .null, .null, .null, .null, .null, .null, .int 0, .int 0, .int 0, .int 0, .long 0, .int 0, .int 0, .null, .null, .null, .null, .null, .null, .null, .null, .int 0]) S igX7 tyX7 tyX7_ok q873 q874 q71 hK hP hD hS hA rfl dfX7 (Nat.le_of_ble_eq_true rfl) (Nat.le_of_ble_eq_true rfl) dL_law_8 (fun q0' H hP hD hS => ?_)
  refine lv_dup hx hb dL_law_11 rfl ?_
  refine MN.callI (mn_X7 (rest := w6) (h0 := q0')) k_L_12 S hA hK ha1 ha3 ⟨Nat.le_of_ble_eq_true rfl, Nat.le_of_ble_eq_true rfl⟩ rfl rfl hl.1 (Nat.le_of_ble_eq_true rfl) dL_law_12 ⟨Nat.le_of_ble_eq_true rfl, Nat.le_of_ble_eq_true rfl⟩ hP hD hS (fun w2 H locs hB hP hD hS => ?_)
  obtain ⟨q1', q2', q3', q4', q5', q6', q7', q8', q9', q10', q11', q12', q13', q14', q15', q16', q17', rfl⟩ := hB
  refine lv_astore_n (lv' := [(2, .ref _), (1, .ref _), (0, .ref _)]) hx hb dL_law_15 rfl hl (by decide) rfl (fun ls hl => ?_)
  refine lv_iconst (v := 0) hx hb dL_law_16 (by decide) ?_
  refine lv_istore_n (lv' := [(3, .int _), (2, .ref _), (1, .ref _), (0, .ref _)]) hx hb dL_law_17 rfl hl (by decide) rfl (fun ls hl => ?_)
  have hPC := conv_C (cc := cc) (by rw [← hw6]; exact va_P_left hP)
  have hPM := conv_M (cc := cc) (va_P_right hP)
  have hatC := conv_Cat hw6
  have hatM := conv_Mat (cc := cc) (h0 := q0') (q1 := q1') (q2 := q2') (q3 := q3') (q4 := q4') (q5 := q5') (q6 := q6') (q7 := q7') (q8 := q8') (q9 := q9') (q10 := q10') (q11 := q11') (q12 := q12') (q13 := q13') (q14 := q14') (q15 := q15') (q16 := q16') (q17 := q17') rfl
  obtain ⟨injC, lowC⟩ := conv_D (a := fun i => ([q0, (f2 12), (f4 12), (f11 12), q1, q3, q10, q5, (f6 0), (f6 1), (f6 2), (f6 3), (f6 4), (f6 5), (f6 6), q7, q8, q9, q12, q13, q15, q17, q19, q14, q16, q18, q20, q21, (f2 0), (f2 1), (f2 2), (f2 3), (f2 4), (f2 5), (f2 6), (f2 7), (f2 8), (f2 9), (f2 10), (f2 11), (f4 0), (f4 1), (f4 2), (f4 3), (f4 4), (f4 5), (f4 6), (f4 7), (f4 8), (f4 9), (f4 10), (f4 11), (f11 0), (f11 1), (f11 2), (f11 3), (f11 4), (f11 5), (f11 6), (f11 7), (f11 8), (f11 9), (f11 10), (f11 11)] : List Nat).getD i 0) (pm := fun i => ([0, 2, 16, 41, 1, 15, 40, 29, 30, 31, 32, 33, 34, 35, 36, 37, 38, 39, 54, 55, 57, 59, 61, 56, 58, 60, 62, 63, 3, 4, 5, 6, 7, 8, 9, 10, 11, 12, 13, 14, 17, 18, 19, 20, 21, 22, 23, 24, 25, 26, 27, 28, 42, 43, 44, 45, 46, 47, 48, 49, 50, 51, 52, 53] : List Nat).getD i 0) (va_D_left hD) hatC perm64
  obtain ⟨injM, lowM⟩ := conv_D (a := fun i => ([q0', q1', q2', q3', q4', q5', q6', q7', q8', q9', q10', q11', q12', q13', q14', q15', q16', q17'] : List Nat).getD i 0) (pm := fun i => ([0, 1, 2, 3, 4, 5, 6, 7, 8, 9, 10, 11, 12, 13, 14, 15, 16, 17] : List Nat).getD i 0) (va_D_right hD) hatM perm18
  refine W.widen (k := 82) (n := 9782) (Nat.le_of_ble_eq_true rfl) (Nat.le_of_ble_eq_true rfl) ?_
  refine law_loop (tU := tU) (adK := adK) (adV := adV) hL ⟨hK.sub [0, 1, 2, 3] rfl, hK.sub [0, 1, 4] rfl, hE, wlC_Dof injC, wlM_Dof injM, ?_, ?_, ?_⟩ S hr hlocks hX hbl hst (L + 6) 0 (by omega) (by omega) u0C u0M h0 H locs ls hPC hPM hS (lv_sub hl [3, 2, 1, 0] rfl)
  · rintro q ⟨i, hi, rfl⟩
    exact lowC i hi
  · rintro q ⟨i, hi, rfl⟩
    exact lowM i hi
  · rintro q ⟨i, hi, rfl⟩ ⟨j, hj, ej⟩
    obtain ⟨x, hx1⟩ := hatC i hi
    obtain ⟨y, hy1⟩ := hatM j hj
    exact va_D_apart hD hx1 hy1 ej
