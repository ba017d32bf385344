theorem lw_gt {L j : Nat} (hL : L ≤ 3072) (h : L + 6 ≤ j) (hj : j ≤ L + 6) : nI L - 6 < nI j := by
  rw [Int32.lt_iff_toInt_lt, show (6 : Int32) = nI 6 from rfl, pk_sub_toInt (by omega) (by omega), nI_toInt (by omega)]
  omega
theorem lw_ngt {L j : Nat} (hL : L ≤ 3072) (hj : j ≤ L + 6) (h : ¬ nI L - 6 < nI j) : j + 6 ≤ L := by
  rw [Int32.lt_iff_toInt_lt, show (6 : Int32) = nI 6 from rfl, pk_sub_toInt (by omega) (by omega), nI_toInt (by omega)] at h
  omega
section
variable {p : Program} {l : Launch} {e : Env} {s : State} {m : MethodId} {below : List Frame} {meth : Method} {c : Code} {b L : Nat} {xs : Nat → Int32} {D : va_G} {cc : Nat → ClassId} {a a2 : Nat → Nat} {tU : Nat} {adK adV : Nat → Nat} {Rel : Mem → Mem → Prop}
set_option maxRecDepth 100000 in
set_option maxHeartbeats 4000000 in
theorem law_loop (hL : L ≤ 3072) (C0 : LStat s D cc a a2 tU adK adV) (S : CallFix p m c code 4 s #[Value.ref b] gtbl RL) (hr : meth.sig.returnType = ret) (hlocks : meth.locks = false) (hX : va_X b L xs s s.heap) (hbl : b < s.heap.size) (hst : STA Rel) :
    ∀ (n j : Nat), L + 6 ≤ j + n → j ≤ L + 6 → ∀ (u v : Mem), Rel u v → LW p l e s m below meth c b D cc a a2 u v 18 (nI j) := by
  have hbA : ¬ (fun z : Nat => s.heap.size ≤ z) b := Nat.not_le.mpr hbl
  obtain ⟨hx, hb, hml, hown, hts⟩ := id S
  obtain ⟨g0, g1, g2, g3, g4, g5, g6, g7, g8, g9, g10, g11, g12, g13, g14, g15, g16, g17, g18, g19, g20, g21, g22, g23, g24, g25, g26, g27, g28, g29, g30, g31, g32, g33, g34, g35, g36, g37, g38, g39, g40, g41, g42⟩ := hst
  intro n
  induction n with
  | zero =>
    intro j h1 h2 u v hR H locs ls hPC hPM hS hl
    have hj : j = L + 6 := by omega
    subst hj
    refine lv_iload_n hx hb dL_law_18 rfl (lv_at hl 3 rfl) ?_
    refine lv_aload_n hx hb dL_law_19 rfl (lv_at hl 0 rfl) ?_
    refine va_slen hx hb hX hbl hbA hS dL_law_20 ?_
    refine lv_bipush (v := 6) hx hb dL_law_21 (by decide) ?_
    refine lv_isub hx hb dL_law_23 ?_
    refine lv_icmp_gt (tgt := 1485) hx hb dL_law_24 (by decide) (fun _ => ?_) (fun c9 => absurd (lw_gt hL (Nat.le_refl _) (by omega)) c9)
    refine lv_iconst (v := 1) hx hb dL_law_1485 (by decide) ?_
    refine va_forget (fun q hq => hS.2.2 q hq) ?_
    refine W.widen (k := 600000) (n := 7302250) (Nat.le_of_ble_eq_true rfl) (Nat.le_of_ble_eq_true rfl) ?_
    exact lw_ret hx hb hr hlocks dL_law_1486
  | succ n ih =>
    intro j h1 h2 u v hR H locs ls hPC hPM hS hl
    refine lv_iload_n hx hb dL_law_18 rfl (lv_at hl 3 rfl) ?_
    refine lv_aload_n hx hb dL_law_19 rfl (lv_at hl 0 rfl) ?_
    refine va_slen hx hb hX hbl hbA hS dL_law_20 ?_
    refine lv_bipush (v := 6) hx hb dL_law_21 (by decide) ?_
    refine lv_isub hx hb dL_law_23 ?_
    refine lv_icmp_gt (tgt := 1485) hx hb dL_law_24 (by decide) (fun _ => ?_) (fun c9 => ?_)
    · refine lv_iconst (v := 1) hx hb dL_law_1485 (by decide) ?_
      refine va_forget (fun q hq => hS.2.2 q hq) ?_
      refine W.widen (k := 600000) (n := 7302250) (Nat.le_of_ble_eq_true rfl) (Nat.le_of_ble_eq_true rfl) ?_
      exact lw_ret hx hb hr hlocks dL_law_1486
    · have hj : j + 6 ≤ L := lw_ngt hL h2 c9
      have hv : ∀ k : Nat, k < 6 → vp_in (nI j + nI k) L := fun k hk => by rw [nI_add]; exact vp_in_nI (by omega) (by omega)
      have hnx : ∀ u' v', Rel u' v' → LW p l e s m below meth c b D cc a a2 u' v' 1479 (nI j) := by
        intro u' v' hR' H locs ls hPC hPM hS hl
        refine lv_iinc (v := nI (j + 6)) (k := 3) (lv' := [(3, .int _), (0, .ref _), (1, .ref _), (2, .ref _)]) hx hb dL_law_1479 hl rfl (by rw [← nI_add]; rfl) (by decide) rfl (fun ls hl => ?_)
        refine lv_goto (tgt := 18) hx hb dL_law_1482 (by decide) ?_
        exact ih (j + 6) (by omega) (by omega) u' v' hR' H locs ls hPC hPM hS (lv_sub hl [1, 2, 3, 0] rfl)
      have h0 : vp_in (nI j) L := vp_in_nI (by omega) (by omega)
      refine lv_aload_n hx hb dL_law_27 rfl (lv_at hl 0 rfl) ?_
      refine lv_iload_n hx hb dL_law_28 rfl (lv_at hl 3 rfl) ?_
      refine va_sld hx hb hX hbl hbA hS h0 dL_law_29 ?_
      refine lv_bipush (v := 63) hx hb dL_law_30 (by decide) ?_
      refine lv_iand hx hb dL_law_32 ?_
      obtain ⟨t, ht, et⟩ := pk_andE (xs (nI j).toNatClampNeg) (m := 63) 6 (by decide)
      rw [et]
      by_cases t0 : t = 0
      · subst t0
        refine lv_tableIn (off := 187) (tgt := 220) hx hb dL_law_33 (by decide) (by decide) rfl (by decide) ?_
        exact law_0 C0 S hX hbl (hv 1 (by decide)) (hv 2 (by decide)) (hv 3 (by decide)) (hv 4 (by decide)) (hv 5 (by decide)) g0 hR hnx H locs ls hPC hPM hS hl
      by_cases t1 : t = 1
      · subst t1
        refine lv_tableIn (off := 250) (tgt := 283) hx hb dL_law_33 (by decide) (by decide) rfl (by decide) ?_
        exact law_1 C0 S hX hbl (hv 1 (by decide)) (hv 2 (by decide)) (hv 3 (by decide)) (hv 4 (by decide)) (hv 5 (by decide)) g1 hR hnx H locs ls hPC hPM hS hl
      by_cases t2 : t = 2
      · subst t2
        refine lv_tableIn (off := 283) (tgt := 316) hx hb dL_law_33 (by decide) (by decide) rfl (by decide) ?_
        exact law_2 C0 S hX hbl (hv 1 (by decide)) (hv 2 (by decide)) (hv 3 (by decide)) (hv 4 (by decide)) (hv 5 (by decide)) g2 hR hnx H locs ls hPC hPM hS hl
      by_cases t3 : t = 3
      · subst t3
        refine lv_tableIn (off := 317) (tgt := 350) hx hb dL_law_33 (by decide) (by decide) rfl (by decide) ?_
        exact law_3 C0 S hX hbl (hv 1 (by decide)) (hv 2 (by decide)) (hv 3 (by decide)) (hv 4 (by decide)) (hv 5 (by decide)) g3 hR hnx H locs ls hPC hPM hS hl
      by_cases t4 : t = 4
      · subst t4
        refine lv_tableIn (off := 360) (tgt := 393) hx hb dL_law_33 (by decide) (by decide) rfl (by decide) ?_
        exact law_4 C0 S hX hbl (hv 1 (by decide)) (hv 2 (by decide)) (hv 3 (by decide)) (hv 4 (by decide)) (hv 5 (by decide)) g4 hR hnx H locs ls hPC hPM hS hl
      by_cases t5 : t = 5
      · subst t5
        refine lv_tableIn (off := 419) (tgt := 452) hx hb dL_law_33 (by decide) (by decide) rfl (by decide) ?_
        exact law_5 C0 S hX hbl (hv 1 (by decide)) (hv 2 (by decide)) (hv 3 (by decide)) (hv 4 (by decide)) (hv 5 (by decide)) g5 hR hnx H locs ls hPC hPM hS hl
      by_cases t6 : t = 6
      · subst t6
        refine lv_tableIn (off := 442) (tgt := 475) hx hb dL_law_33 (by decide) (by decide) rfl (by decide) ?_
        exact law_6 C0 S hX hbl (hv 1 (by decide)) (hv 2 (by decide)) (hv 3 (by decide)) (hv 4 (by decide)) (hv 5 (by decide)) g6 hR hnx H locs ls hPC hPM hS hl
      by_cases t7 : t = 7
      · subst t7
        refine lv_tableIn (off := 475) (tgt := 508) hx hb dL_law_33 (by decide) (by decide) rfl (by decide) ?_
        exact law_7 C0 S hX hbl (hv 1 (by decide)) (hv 2 (by decide)) (hv 3 (by decide)) (hv 4 (by decide)) (hv 5 (by decide)) g7 hR hnx H locs ls hPC hPM hS hl
      by_cases t8 : t = 8
      · subst t8
        refine lv_tableIn (off := 508) (tgt := 541) hx hb dL_law_33 (by decide) (by decide) rfl (by decide) ?_
        exact law_8 C0 S hX hbl (hv 1 (by decide)) (hv 2 (by decide)) (hv 3 (by decide)) (hv 4 (by decide)) (hv 5 (by decide)) g8 hR hnx H locs ls hPC hPM hS hl
      by_cases t9 : t = 9
      · subst t9
        refine lv_tableIn (off := 531) (tgt := 564) hx hb dL_law_33 (by decide) (by decide) rfl (by decide) ?_
        exact law_9 C0 S hX hbl (hv 1 (by decide)) (hv 2 (by decide)) (hv 3 (by decide)) (hv 4 (by decide)) (hv 5 (by decide)) g9 hR hnx H locs ls hPC hPM hS hl
      by_cases t10 : t = 10
      · subst t10
        refine lv_tableIn (off := 564) (tgt := 597) hx hb dL_law_33 (by decide) (by decide) rfl (by decide) ?_
        exact law_10 C0 S hX hbl (hv 1 (by decide)) (hv 2 (by decide)) (hv 3 (by decide)) (hv 4 (by decide)) (hv 5 (by decide)) g10 hR hnx H locs ls hPC hPM hS hl
      by_cases t11 : t = 11
      · subst t11
        refine lv_tableIn (off := 597) (tgt := 630) hx hb dL_law_33 (by decide) (by decide) rfl (by decide) ?_
        exact law_11 C0 S hX hbl (hv 1 (by decide)) (hv 2 (by decide)) (hv 3 (by decide)) (hv 4 (by decide)) (hv 5 (by decide)) g11 hR hnx H locs ls hPC hPM hS hl
      by_cases t12 : t = 12
      · subst t12
        refine lv_tableIn (off := 630) (tgt := 663) hx hb dL_law_33 (by decide) (by decide) rfl (by decide) ?_
        exact law_12 C0 S hX hbl (hv 1 (by decide)) (hv 2 (by decide)) (hv 3 (by decide)) (hv 4 (by decide)) (hv 5 (by decide)) g12 hR hnx H locs ls hPC hPM hS hl
      by_cases t13 : t = 13
      · subst t13
        refine lv_tableIn (off := 663) (tgt := 696) hx hb dL_law_33 (by decide) (by decide) rfl (by decide) ?_
        exact law_13 C0 S hX hbl (hv 1 (by decide)) (hv 2 (by decide)) (hv 3 (by decide)) (hv 4 (by decide)) (hv 5 (by decide)) g13 hR hnx H locs ls hPC hPM hS hl
      by_cases t14 : t = 14
      · subst t14
        refine lv_tableIn (off := 696) (tgt := 729) hx hb dL_law_33 (by decide) (by decide) rfl (by decide) ?_
        exact law_14 C0 S hX hbl (hv 1 (by decide)) (hv 2 (by decide)) (hv 3 (by decide)) (hv 4 (by decide)) (hv 5 (by decide)) g14 hR hnx H locs ls hPC hPM hS hl
      by_cases t15 : t = 15
      · subst t15
        refine lv_tableIn (off := 719) (tgt := 752) hx hb dL_law_33 (by decide) (by decide) rfl (by decide) ?_
        exact law_15 C0 S hX hbl (hv 1 (by decide)) (hv 2 (by decide)) (hv 3 (by decide)) (hv 4 (by decide)) (hv 5 (by decide)) g15 hR hnx H locs ls hPC hPM hS hl
      by_cases t16 : t = 16
      · subst t16
        refine lv_tableIn (off := 742) (tgt := 775) hx hb dL_law_33 (by decide) (by decide) rfl (by decide) ?_
        exact law_16 C0 S hX hbl (hv 1 (by decide)) (hv 2 (by decide)) (hv 3 (by decide)) (hv 4 (by decide)) (hv 5 (by decide)) g16 hR hnx H locs ls hPC hPM hS hl
      by_cases t17 : t = 17
      · subst t17
        refine lv_tableIn (off := 765) (tgt := 798) hx hb dL_law_33 (by decide) (by decide) rfl (by decide) ?_
        exact law_17 C0 S hX hbl (hv 1 (by decide)) (hv 2 (by decide)) (hv 3 (by decide)) (hv 4 (by decide)) (hv 5 (by decide)) g17 hR hnx H locs ls hPC hPM hS hl
      by_cases t18 : t = 18
      · subst t18
        refine lv_tableIn (off := 788) (tgt := 821) hx hb dL_law_33 (by decide) (by decide) rfl (by decide) ?_
        exact law_18 C0 S hX hbl (hv 1 (by decide)) (hv 2 (by decide)) (hv 3 (by decide)) (hv 4 (by decide)) (hv 5 (by decide)) g18 hR hnx H locs ls hPC hPM hS hl
      by_cases t19 : t = 19
      · subst t19
        refine lv_tableIn (off := 811) (tgt := 844) hx hb dL_law_33 (by decide) (by decide) rfl (by decide) ?_
        exact law_19 C0 S hX hbl (hv 1 (by decide)) (hv 2 (by decide)) (hv 3 (by decide)) (hv 4 (by decide)) (hv 5 (by decide)) g19 hR hnx H locs ls hPC hPM hS hl
      by_cases t20 : t = 20
      · subst t20
        refine lv_tableIn (off := 834) (tgt := 867) hx hb dL_law_33 (by decide) (by decide) rfl (by decide) ?_
        exact law_20 C0 S hX hbl (hv 1 (by decide)) (hv 2 (by decide)) (hv 3 (by decide)) (hv 4 (by decide)) (hv 5 (by decide)) g20 hR hnx H locs ls hPC hPM hS hl
      by_cases t21 : t = 21
      · subst t21
        refine lv_tableIn (off := 867) (tgt := 900) hx hb dL_law_33 (by decide) (by decide) rfl (by decide) ?_
        exact law_21 C0 S hX hbl (hv 1 (by decide)) (hv 2 (by decide)) (hv 3 (by decide)) (hv 4 (by decide)) (hv 5 (by decide)) g21 hR hnx H locs ls hPC hPM hS hl
      by_cases t22 : t = 22
      · subst t22
        refine lv_tableIn (off := 890) (tgt := 923) hx hb dL_law_33 (by decide) (by decide) rfl (by decide) ?_
        exact law_22 C0 S hX hbl (hv 1 (by decide)) (hv 2 (by decide)) (hv 3 (by decide)) (hv 4 (by decide)) (hv 5 (by decide)) g22 hR hnx H locs ls hPC hPM hS hl
      by_cases t23 : t = 23
      · subst t23
        refine lv_tableIn (off := 924) (tgt := 957) hx hb dL_law_33 (by decide) (by decide) rfl (by decide) ?_
        exact law_23 C0 S hX hbl (hv 1 (by decide)) (hv 2 (by decide)) (hv 3 (by decide)) (hv 4 (by decide)) (hv 5 (by decide)) g23 hR hnx H locs ls hPC hPM hS hl
      by_cases t24 : t = 24
      · subst t24
        refine lv_tableIn (off := 958) (tgt := 991) hx hb dL_law_33 (by decide) (by decide) rfl (by decide) ?_
        exact law_24 C0 S hX hbl (hv 1 (by decide)) (hv 2 (by decide)) (hv 3 (by decide)) (hv 4 (by decide)) (hv 5 (by decide)) g24 hR hnx H locs ls hPC hPM hS hl
      by_cases t25 : t = 25
      · subst t25
        refine lv_tableIn (off := 981) (tgt := 1014) hx hb dL_law_33 (by decide) (by decide) rfl (by decide) ?_
        exact law_25 C0 S hX hbl (hv 1 (by decide)) (hv 2 (by decide)) (hv 3 (by decide)) (hv 4 (by decide)) (hv 5 (by decide)) g25 hR hnx H locs ls hPC hPM hS hl
      by_cases t26 : t = 26
      · subst t26
        refine lv_tableIn (off := 1004) (tgt := 1037) hx hb dL_law_33 (by decide) (by decide) rfl (by decide) ?_
        exact law_26 C0 S hX hbl (hv 1 (by decide)) (hv 2 (by decide)) (hv 3 (by decide)) (hv 4 (by decide)) (hv 5 (by decide)) g26 hR hnx H locs ls hPC hPM hS hl
      by_cases t27 : t = 27
      · subst t27
        refine lv_tableIn (off := 1017) (tgt := 1050) hx hb dL_law_33 (by decide) (by decide) rfl (by decide) ?_
        exact law_27 C0 S hX hbl (hv 1 (by decide)) (hv 2 (by decide)) (hv 3 (by decide)) (hv 4 (by decide)) (hv 5 (by decide)) g27 hR hnx H locs ls hPC hPM hS hl
      by_cases t28 : t = 28
      · subst t28
        refine lv_tableIn (off := 1040) (tgt := 1073) hx hb dL_law_33 (by decide) (by decide) rfl (by decide) ?_
        exact law_28 C0 S hX hbl (hv 1 (by decide)) (hv 2 (by decide)) (hv 3 (by decide)) (hv 4 (by decide)) (hv 5 (by decide)) g28 hR hnx H locs ls hPC hPM hS hl
      by_cases t29 : t = 29
      · subst t29
        refine lv_tableIn (off := 1053) (tgt := 1086) hx hb dL_law_33 (by decide) (by decide) rfl (by decide) ?_
        exact law_29 C0 S hX hbl (hv 1 (by decide)) (hv 2 (by decide)) (hv 3 (by decide)) (hv 4 (by decide)) (hv 5 (by decide)) g29 hR hnx H locs ls hPC hPM hS hl
      by_cases t30 : t = 30
      · subst t30
        refine lv_tableIn (off := 1086) (tgt := 1119) hx hb dL_law_33 (by decide) (by decide) rfl (by decide) ?_
        exact law_30 C0 S hX hbl (hv 1 (by decide)) (hv 2 (by decide)) (hv 3 (by decide)) (hv 4 (by decide)) (hv 5 (by decide)) g30 hR hnx H locs ls hPC hPM hS hl
      by_cases t31 : t = 31
      · subst t31
        refine lv_tableIn (off := 1099) (tgt := 1132) hx hb dL_law_33 (by decide) (by decide) rfl (by decide) ?_
        exact law_31 C0 S hX hbl (hv 1 (by decide)) (hv 2 (by decide)) (hv 3 (by decide)) (hv 4 (by decide)) (hv 5 (by decide)) g31 hR hnx H locs ls hPC hPM hS hl
      by_cases t32 : t = 32
      · subst t32
        refine lv_tableIn (off := 1112) (tgt := 1145) hx hb dL_law_33 (by decide) (by decide) rfl (by decide) ?_
        exact law_32 C0 S hX hbl (hv 1 (by decide)) (hv 2 (by decide)) (hv 3 (by decide)) (hv 4 (by decide)) (hv 5 (by decide)) g32 hR hnx H locs ls hPC hPM hS hl
      by_cases t33 : t = 33
      · subst t33
        refine lv_tableIn (off := 1155) (tgt := 1188) hx hb dL_law_33 (by decide) (by decide) rfl (by decide) ?_
        exact law_33 C0 S hX hbl (hv 1 (by decide)) (hv 2 (by decide)) (hv 3 (by decide)) (hv 4 (by decide)) (hv 5 (by decide)) g33 hR hnx H locs ls hPC hPM hS hl
      by_cases t34 : t = 34
      · subst t34
        refine lv_tableIn (off := 1229) (tgt := 1262) hx hb dL_law_33 (by decide) (by decide) rfl (by decide) ?_
        exact law_34 C0 S hX hbl (hv 1 (by decide)) (hv 2 (by decide)) (hv 3 (by decide)) (hv 4 (by decide)) (hv 5 (by decide)) g34 hR hnx H locs ls hPC hPM hS hl
      by_cases t35 : t = 35
      · subst t35
        refine lv_tableIn (off := 1292) (tgt := 1325) hx hb dL_law_33 (by decide) (by decide) rfl (by decide) ?_
        exact law_35 C0 S hX hbl (hv 1 (by decide)) (hv 2 (by decide)) (hv 3 (by decide)) (hv 4 (by decide)) (hv 5 (by decide)) g35 hR hnx H locs ls hPC hPM hS hl
      by_cases t36 : t = 36
      · subst t36
        refine lv_tableIn (off := 1315) (tgt := 1348) hx hb dL_law_33 (by decide) (by decide) rfl (by decide) ?_
        exact law_36 C0 S hX hbl (hv 1 (by decide)) (hv 2 (by decide)) (hv 3 (by decide)) (hv 4 (by decide)) (hv 5 (by decide)) g36 hR hnx H locs ls hPC hPM hS hl
      by_cases t37 : t = 37
      · subst t37
        refine lv_tableIn (off := 1338) (tgt := 1371) hx hb dL_law_33 (by decide) (by decide) rfl (by decide) ?_
        exact law_37 C0 S hX hbl (hv 1 (by decide)) (hv 2 (by decide)) (hv 3 (by decide)) (hv 4 (by decide)) (hv 5 (by decide)) g37 hR hnx H locs ls hPC hPM hS hl
      by_cases t38 : t = 38
      · subst t38
        refine lv_tableIn (off := 1361) (tgt := 1394) hx hb dL_law_33 (by decide) (by decide) rfl (by decide) ?_
        exact law_38 C0 S hX hbl (hv 1 (by decide)) (hv 2 (by decide)) (hv 3 (by decide)) (hv 4 (by decide)) (hv 5 (by decide)) g38 hR hnx H locs ls hPC hPM hS hl
      by_cases t39 : t = 39
      · subst t39
        refine lv_tableIn (off := 1374) (tgt := 1407) hx hb dL_law_33 (by decide) (by decide) rfl (by decide) ?_
        exact law_39 C0 S hX hbl (hv 1 (by decide)) (hv 2 (by decide)) (hv 3 (by decide)) (hv 4 (by decide)) (hv 5 (by decide)) g39 hR hnx H locs ls hPC hPM hS hl
      by_cases t40 : t = 40
      · subst t40
        refine lv_tableIn (off := 1387) (tgt := 1420) hx hb dL_law_33 (by decide) (by decide) rfl (by decide) ?_
        exact law_40 C0 S hX hbl (hv 1 (by decide)) (hv 2 (by decide)) (hv 3 (by decide)) (hv 4 (by decide)) (hv 5 (by decide)) g40 hR hnx H locs ls hPC hPM hS hl
      by_cases t41 : t = 41
      · subst t41
        refine lv_tableIn (off := 1400) (tgt := 1433) hx hb dL_law_33 (by decide) (by decide) rfl (by decide) ?_
        exact law_41 C0 S hX hbl (hv 1 (by decide)) (hv 2 (by decide)) (hv 3 (by decide)) (hv 4 (by decide)) (hv 5 (by decide)) g41 hR hnx H locs ls hPC hPM hS hl
      by_cases t42 : t = 42
      · subst t42
        refine lv_tableIn (off := 1423) (tgt := 1456) hx hb dL_law_33 (by decide) (by decide) rfl (by decide) ?_
        exact law_42 C0 S hX hbl (hv 1 (by decide)) (hv 2 (by decide)) (hv 3 (by decide)) (hv 4 (by decide)) (hv 5 (by decide)) g42 hR hnx H locs ls hPC hPM hS hl
      refine lv_tableOut (tgt := 1479) hx hb dL_law_33 (by right; rw [nI_toInt (by omega)]; omega) (by decide) ?_
      exact hnx u v hR H locs ls hPC hPM hS hl
end
