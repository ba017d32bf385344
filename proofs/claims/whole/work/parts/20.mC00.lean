section
variable {l : Launch} {D : va_G} {cc : Nat → ClassId} {a : Nat → Nat} {tU : Nat} {adK adV : Nat → Nat}
set_option maxRecDepth 100000 in
set_option maxHeartbeats 4000000 in
theorem m_X6_isKind  {x0 : Int32} {u u' : Mem} {r : Int32}  (hF : F_X6_isKind  u x0 = some (r, u')) : MC l D cc a tU adK adV yX6_isKind cX6_isKind 1 (some .boolean) 0 0 [.int x0] u (some (.int r)) u' := by
  refine MM.ofW (by decide) (fun p e s m below meth c S hr hlocks hK hEs hP hD hS => ?_)
  have S : CallFix p m c cX6_isKind 1 s _ gtbl RX6 := S
  obtain ⟨hx, hb, hml, hown, hts⟩ := id S
  have b15 : ∀  (u : Mem) (y0 : Int32) , F_X6_isKind_15  u y0 = some (r, u') → BW p l e s m below meth c 0 0 [.int x0] D (AC a) (some (.int r)) (wlC cc a u') 1 (wlC cc a u) 15 [] [.int y0] := by
    intro  u y0 hF H locs ls hP hD hS hl
    unfold F_X6_isKind_15 at hF
    obtain ⟨hz1, hF⟩ := gz_some hF
    obtain ⟨rfl, rfl⟩ := sp_eq hF
    exact retZ S hr hlocks hP hD hS hz1 dX6_isKind_15
  have b14 : ∀  (u : Mem)  , F_X6_isKind_14  u  = some (r, u') → BW p l e s m below meth c 0 0 [.int x0] D (AC a) (some (.int r)) (wlC cc a u') 1 (wlC cc a u) 14 [] [] := by
    intro  u  hF H locs ls hP hD hS hl
    unfold F_X6_isKind_14 at hF
    refine lv_iconst (v := 0) hx hb dX6_isKind_14 (by decide) ?_
    exact b15 _ _  hF H locs ls hP hD hS (lv_sub hl [] rfl)
  unfold F_X6_isKind at hF
  have b_main : BW p l e s m below meth c 0 0 [.int x0] D (AC a) (some (.int r)) (wlC cc a u') 1 (wlC cc a u) 0 [(0, .int x0)] [] := by
    intro H locs ls hP hD hS hl
    refine lv_iload_n hx hb dX6_isKind_0 rfl (lv_at hl 0 rfl) ?_
    refine lv_if_lt (tgt := 14) hx hb dX6_isKind_1 (by decide) (fun c2 => ?_) (fun c2 => ?_)
    · have hF := ite_t hF c2
      exact b14 _  hF H locs ls hP hD hS (lv_sub hl [] rfl)
    · have hF := ite_f hF c2
      refine lv_iload_n hx hb dX6_isKind_4 rfl (lv_at hl 0 rfl) ?_
      refine lv_bipush (v := 6) hx hb dX6_isKind_5 (by decide) ?_
      refine lv_icmp_ge (tgt := 14) hx hb dX6_isKind_7 (by decide) (fun c3 => ?_) (fun c3 => ?_)
      · have hF := ite_t hF c3
        exact b14 _  hF H locs ls hP hD hS (lv_sub hl [] rfl)
      · have hF := ite_f hF c3
        refine lv_iconst (v := 1) hx hb dX6_isKind_10 (by decide) ?_
        refine lv_goto (tgt := 15) hx hb dX6_isKind_11 (by decide) ?_
        exact b15 _ _  hF H locs ls hP hD hS (lv_sub hl [] rfl)
  have hl := lv_entry ([.int x0]) (n := 1) (Nat.le_of_ble_eq_true rfl)
  rw [lg_entry_eq]
  generalize (lg_sl ([.int x0]) ++ List.replicate (1 - (lg_sl ([.int x0])).length) Slot.unset).toArray = ls at hl ⊢
  exact b_main _ _ _ hP hD hS hl

set_option maxRecDepth 100000 in
set_option maxHeartbeats 4000000 in
theorem m_X6_found  {x1 : Int32} {u u' : Mem} {r : Int32}  (hF : F_X6_found  u x1 = some (r, u')) : MC l D cc a tU adK adV yX6_found cX6_found 3 (some .int) 0 0 [.ref (a 0), .int x1] u (some (.int r)) u' := by
  refine MM.ofW (by decide) (fun p e s m below meth c S hr hlocks hK hEs hP hD hS => ?_)
  have S : CallFix p m c cX6_found 3 s _ gtbl RX6 := S
  obtain ⟨hx, hb, hml, hown, hts⟩ := id S
  have b25 : ∀  (u : Mem) (v1 : Int32) , F_X6_found_25  u v1 = some (r, u') → BW p l e s m below meth c 0 0 [.ref (a 0), .int x1] D (AC a) (some (.int r)) (wlC cc a u') 3 (wlC cc a u) 25 [(1, .int v1)] [] := by
    intro  u v1 hF H locs ls hP hD hS hl
    unfold F_X6_found_25 at hF
    refine lv_iload_n hx hb dX6_found_25 rfl (lv_at hl 0 rfl) ?_
    obtain ⟨rfl, rfl⟩ := sp_eq hF
    exact retI S hr hlocks hP hD hS dX6_found_26
  unfold F_X6_found at hF
  have b_main : BW p l e s m below meth c 0 0 [.ref (a 0), .int x1] D (AC a) (some (.int r)) (wlC cc a u') 3 (wlC cc a u) 0 [(0, .ref (a 0)), (1, .int x1)] [] := by
    intro H locs ls hP hD hS hl
    refine lv_ldc hx hb hown (hts _ q291) dX6_found_0 ?_
    refine lv_iload_n hx hb dX6_found_2 rfl (lv_at hl 1 rfl) ?_
    refine lv_isub hx hb dX6_found_3 ?_
    refine lv_istore_n (lv' := [(2, .int _), (0, .ref _), (1, .int _)]) hx hb dX6_found_4 rfl hl (by decide) rfl (fun ls hl => ?_)
    refine lv_iload_n hx hb dX6_found_5 rfl (lv_at hl 0 rfl) ?_
    refine lv_if_lt (tgt := 25) hx hb dX6_found_6 (by decide) (fun c1 => ?_) (fun c1 => ?_)
    · have hF := ite_t hF c1
      exact b25 _ _  hF H locs ls hP hD hS (lv_sub hl [2] rfl)
    · have hF := ite_f hF c1
      refine lv_iload_n hx hb dX6_found_9 rfl (lv_at hl 0 rfl) ?_
      refine lv_bipush (v := 7) hx hb dX6_found_10 (by decide) ?_
      refine lv_icmp_ge (tgt := 25) hx hb dX6_found_12 (by decide) (fun c2 => ?_) (fun c2 => ?_)
      · have hF := ite_t hF c2
        exact b25 _ _  hF H locs ls hP hD hS (lv_sub hl [2] rfl)
      · have hF := ite_f hF c2
        refine lv_aload_n hx hb dX6_found_15 rfl (lv_at hl 1 rfl) ?_
        refine va_get_w S hK hP _ c_SP rfl igX6 6 (by decide) q265 rfl rfl dX6_found_16 ?_
        refine lv_iload_n hx hb dX6_found_19 rfl (lv_at hl 0 rfl) ?_
        refine lv_dup2_11 hx hb dX6_found_20 rfl rfl ?_
        obtain ⟨hin3, hF⟩ := gd_some hF
        refine cIald S hK hP ⟨rfl, by decide⟩ rfl hin3 dX6_found_21 ?_
        refine lv_iconst (v := 1) hx hb dX6_found_22 (by decide) ?_
        refine lv_iadd hx hb dX6_found_23 ?_
        obtain ⟨hin4, hF⟩ := gd_some hF
        refine cIast S hK hP hD hS ⟨rfl, by decide⟩ rfl hin4 dX6_found_24 (fun H locs hP hD hS => ?_)
        obtain ⟨u5, e6, hF⟩ := bdV_some hF
        obtain rfl := sv_eq e6
        exact b25 _ _  hF H locs ls hP hD hS (lv_sub hl [2] rfl)
  have hl := lv_entry ([.ref (a 0), .int x1]) (n := 3) (Nat.le_of_ble_eq_true rfl)
  rw [lg_entry_eq]
  generalize (lg_sl ([.ref (a 0), .int x1]) ++ List.replicate (3 - (lg_sl ([.ref (a 0), .int x1])).length) Slot.unset).toArray = ls at hl ⊢
  exact b_main _ _ _ hP hD hS hl

set_option maxRecDepth 100000 in
set_option maxHeartbeats 4000000 in
theorem m_X0_isFull {x0 : Nat}  {u u' : Mem} {r : Int32} (hx0 : 1 ≤ x0 ∧ x0 ≤ 3) (hF : F_X0_isFull x0 u  = some (r, u')) : MC l D cc a tU adK adV yX0_isFull cX0_isFull 1 (some .boolean) 0 0 [.ref (a (x0 + 3))] u (some (.int r)) u' := by
  refine MM.ofW (by decide) (fun p e s m below meth c S hr hlocks hK hEs hP hD hS => ?_)
  have S : CallFix p m c cX0_isFull 1 s _ gtbl RX0 := S
  obtain ⟨hx, hb, hml, hown, hts⟩ := id S
  have b14 : ∀  (u : Mem) (y0 : Int32) , F_X0_isFull_14  u y0 = some (r, u') → BW p l e s m below meth c 0 0 [.ref (a (x0 + 3))] D (AC a) (some (.int r)) (wlC cc a u') 1 (wlC cc a u) 14 [] [.int y0] := by
    intro  u y0 hF H locs ls hP hD hS hl
    unfold F_X0_isFull_14 at hF
    obtain ⟨hz1, hF⟩ := gz_some hF
    obtain ⟨rfl, rfl⟩ := sp_eq hF
    exact retZ S hr hlocks hP hD hS hz1 dX0_isFull_14
  unfold F_X0_isFull at hF
  have b_main : BW p l e s m below meth c 0 0 [.ref (a (x0 + 3))] D (AC a) (some (.int r)) (wlC cc a u') 1 (wlC cc a u) 0 [(0, .ref (a (x0 + 3)))] [] := by
    intro H locs ls hP hD hS hl
    refine lv_aload_n hx hb dX0_isFull_0 rfl (lv_at hl 0 rfl) ?_
    refine va_get_w S hK hP _ (c_AR hx0) rfl igX0 1 (by decide) q138 rfl rfl dX0_isFull_1 ?_
    refine lv_bipush (v := 12) hx hb dX0_isFull_4 (by decide) ?_
    refine lv_icmp_lt (tgt := 13) hx hb dX0_isFull_6 (by decide) (fun c2 => ?_) (fun c2 => ?_)
    · have hF := ite_t hF c2
      refine lv_iconst (v := 0) hx hb dX0_isFull_13 (by decide) ?_
      exact b14 _ _  hF H locs ls hP hD hS (lv_sub hl [] rfl)
    · have hF := ite_f hF c2
      refine lv_iconst (v := 1) hx hb dX0_isFull_9 (by decide) ?_
      refine lv_goto (tgt := 14) hx hb dX0_isFull_10 (by decide) ?_
      exact b14 _ _  hF H locs ls hP hD hS (lv_sub hl [] rfl)
  have hl := lv_entry ([.ref (a (x0 + 3))]) (n := 1) (Nat.le_of_ble_eq_true rfl)
  rw [lg_entry_eq]
  generalize (lg_sl ([.ref (a (x0 + 3))]) ++ List.replicate (1 - (lg_sl ([.ref (a (x0 + 3))])).length) Slot.unset).toArray = ls at hl ⊢
  exact b_main _ _ _ hP hD hS hl

set_option maxRecDepth 100000 in
set_option maxHeartbeats 4000000 in
theorem m_X1_begin {x0 : Nat} {x1 : Int32} {x2 : Int64} {u u' : Mem} (hx0 : 28 ≤ x0 ∧ x0 ≤ 63) (hF : F_X1_begin x0 u x1 x2 = some u') : MC l D cc a tU adK adV yX1_begin cX1_begin 4 none 0 0 [.ref (a x0), .int x1, .long x2] u none u' := by
  refine MM.ofW (by decide) (fun p e s m below meth c S hr hlocks hK hEs hP hD hS => ?_)
  have S : CallFix p m c cX1_begin 4 s _ gtbl RX1 := S
  obtain ⟨hx, hb, hml, hown, hts⟩ := id S
  unfold F_X1_begin at hF
  have b_main : BW p l e s m below meth c 0 0 [.ref (a x0), .int x1, .long x2] D (AC a) none (wlC cc a u') 4 (wlC cc a u) 0 [(0, .ref (a x0)), (1, .int x1), (2, .long x2)] [] := by
    intro H locs ls hP hD hS hl
    refine lv_aload_n hx hb dX1_begin_0 rfl (lv_at hl 0 rfl) ?_
    refine lv_iload_n hx hb dX1_begin_1 rfl (lv_at hl 1 rfl) ?_
    refine va_put_w S igX1 tyX1 tyX1_ok nmX1 hK hP hD hS _ (c_PR hx0) rfl 0 (by decide) q101 rfl rfl (tyX1_ok 0 (by decide)) rfl rfl (Nat.le_of_ble_eq_true rfl) (z_PRi hx0 (by decide)) dX1_begin_2 (fun H locs hP hD hS => ?_)
    refine lv_aload_n hx hb dX1_begin_5 rfl (lv_at hl 0 rfl) ?_
    refine lv_sipush (v := 1000) hx hb dX1_begin_6 (by decide) ?_
    refine va_put_w S igX1 tyX1 tyX1_ok nmX1 hK hP hD hS _ (c_PR hx0) rfl 1 (by decide) q105 rfl rfl (tyX1_ok 1 (by decide)) rfl rfl (Nat.le_of_ble_eq_true rfl) (z_PRi hx0 (by decide)) dX1_begin_9 (fun H locs hP hD hS => ?_)
    refine lv_aload_n hx hb dX1_begin_12 rfl (lv_at hl 0 rfl) ?_
    refine lv_iconst (v := 0) hx hb dX1_begin_13 (by decide) ?_
    refine va_put_w S igX1 tyX1 tyX1_ok nmX1 hK hP hD hS _ (c_PR hx0) rfl 2 (by decide) q109 rfl rfl (tyX1_ok 2 (by decide)) rfl rfl (Nat.le_of_ble_eq_true rfl) (z_PRi hx0 (by decide)) dX1_begin_14 (fun H locs hP hD hS => ?_)
    refine lv_aload_n hx hb dX1_begin_17 rfl (lv_at hl 0 rfl) ?_
    refine lv_iconst (v := 0) hx hb dX1_begin_18 (by decide) ?_
    refine va_put_w S igX1 tyX1 tyX1_ok nmX1 hK hP hD hS _ (c_PR hx0) rfl 3 (by decide) q114 rfl rfl (ty := .boolean) (tyX1_ok 3 (by decide)) (nz_ok (by decide)) (fz_ok (by decide)) (Nat.le_of_ble_eq_true rfl) (z_PRi hx0 (by decide)) dX1_begin_19 (fun H locs hP hD hS => ?_)
    obtain ⟨u1, e2, hF⟩ := bdV_some hF
    obtain rfl := sv_eq e2
    refine lv_aload_n hx hb dX1_begin_22 rfl (lv_at hl 0 rfl) ?_
    refine lv_lload_n hx hb dX1_begin_23 rfl (lv_at hl 2 rfl) ?_
    refine lv_ldc2 hx hb hown (hts _ q310) dX1_begin_24 ?_
    refine lv_land hx hb dX1_begin_27 ?_
    refine va_put_w S igX1 tyX1 tyX1_ok nmX1 hK hP hD hS _ (c_PR hx0) rfl 4 (by decide) q119 rfl rfl (tyX1_ok 4 (by decide)) rfl rfl (Nat.le_of_ble_eq_true rfl) (z_PRl hx0) dX1_begin_28 (fun H locs hP hD hS => ?_)
    obtain rfl := sv_eq hF
    exact retV S hr hlocks hP hD hS dX1_begin_31
  have hl := lv_entry ([.ref (a x0), .int x1, .long x2]) (n := 4) (Nat.le_of_ble_eq_true rfl)
  rw [lg_entry_eq]
  generalize (lg_sl ([.ref (a x0), .int x1, .long x2]) ++ List.replicate (4 - (lg_sl ([.ref (a x0), .int x1, .long x2])).length) Slot.unset).toArray = ls at hl ⊢
  exact b_main _ _ _ hP hD hS hl

set_option maxRecDepth 100000 in
set_option maxHeartbeats 4000000 in
theorem m_X0_hang {x0 : Nat} {x1 : Int32} {x2 : Int64} {u u' : Mem} {r : Int32} (hx0 : 1 ≤ x0 ∧ x0 ≤ 3) (hF : F_X0_hang x0 u x1 x2 = some (r, u')) : MC l D cc a tU adK adV yX0_hang cX0_hang 4 (some .int) 1 23 [.ref (a (x0 + 3)), .int x1, .long x2] u (some (.int r)) u' := by
  refine MM.ofW (by decide) (fun p e s m below meth c S hr hlocks hK hEs hP hD hS => ?_)
  have S : CallFix p m c cX0_hang 4 s _ gtbl RX0 := S
  obtain ⟨hx, hb, hml, hown, hts⟩ := id S
  unfold F_X0_hang at hF
  have b_main : BW p l e s m below meth c 1 23 [.ref (a (x0 + 3)), .int x1, .long x2] D (AC a) (some (.int r)) (wlC cc a u') 4 (wlC cc a u) 0 [(0, .ref (a (x0 + 3))), (1, .int x1), (2, .long x2)] [] := by
    intro H locs ls hP hD hS hl
    refine lv_aload_n hx hb dX0_hang_0 rfl (lv_at hl 0 rfl) ?_
    obtain ⟨r2, u1, e3, hF⟩ := bdI_some hF
    refine MM.callVi (m_X0_isFull hx0 e3) k_X0_29 S ecOK hEs hK ⟨by decide, by decide⟩ (va_recv hK hP rfl (c_AR hx0)) rfl rfl hl.1 (Nat.le_of_ble_eq_true rfl) dX0_hang_1 ⟨Nat.le_refl _, Nat.le_refl _⟩ hP hD hS (fun H locs hP hD hS => ?_)
    refine lv_if_eq (tgt := 9) hx hb dX0_hang_4 (by decide) (fun c4 => ?_) (fun c4 => ?_)
    · have hF := ite_t hF c4
      refine lv_aload_n hx hb dX0_hang_9 rfl (lv_at hl 0 rfl) ?_
      refine va_get_w S hK hP _ (c_AR hx0) rfl igX0 0 (by decide) q134 rfl rfl dX0_hang_10 ?_
      refine lv_aload_n hx hb dX0_hang_13 rfl (lv_at hl 0 rfl) ?_
      refine va_get_w S hK hP _ (c_AR hx0) rfl igX0 1 (by decide) q138 rfl rfl dX0_hang_14 ?_
      obtain ⟨hin5, hF⟩ := gd_some hF
      have hp6 := r_PR (t := x0) hx0 hin5
      refine cPald S hK hP hx0 hin5 dX0_hang_17 ?_
      refine lv_iload_n hx hb dX0_hang_18 rfl (lv_at hl 1 rfl) ?_
      refine lv_lload_n hx hb dX0_hang_19 rfl (lv_at hl 2 rfl) ?_
      obtain ⟨u7, e9, hF⟩ := bdV_some hF
      refine MM.callVv (m_X1_begin hp6 e9) k_X0_33 S ecOK hEs hK ⟨by decide, by decide⟩ (va_recv hK hP rfl (c_PR hp6)) rfl rfl hl.1 (Nat.le_of_ble_eq_true rfl) dX0_hang_20 ⟨Nat.le_refl _, Nat.le_refl _⟩ hP hD hS (fun H locs hP hD hS => ?_)
      refine lv_aload_n hx hb dX0_hang_23 rfl (lv_at hl 0 rfl) ?_
      refine lv_dup hx hb dX0_hang_24 rfl ?_
      refine va_get_w S hK hP _ (c_AR hx0) rfl igX0 1 (by decide) q138 rfl rfl dX0_hang_25 ?_
      refine lv_iconst (v := 1) hx hb dX0_hang_28 (by decide) ?_
      refine lv_iadd hx hb dX0_hang_29 ?_
      refine va_put_w S igX0 tyX0 tyX0_ok nmX0 hK hP hD hS _ (c_AR hx0) rfl 1 (by decide) q138 rfl rfl (tyX0_ok 1 (by decide)) rfl rfl (Nat.le_of_ble_eq_true rfl) (z_AR1 hx0) dX0_hang_30 (fun H locs hP hD hS => ?_)
      refine lv_aload_n hx hb dX0_hang_33 rfl (lv_at hl 0 rfl) ?_
      refine va_get_w S hK hP _ (c_AR hx0) rfl igX0 1 (by decide) q138 rfl rfl dX0_hang_34 ?_
      refine lv_iconst (v := 1) hx hb dX0_hang_37 (by decide) ?_
      refine lv_isub hx hb dX0_hang_38 ?_
      obtain ⟨rfl, rfl⟩ := sp_eq hF
      exact retI S hr hlocks hP hD hS dX0_hang_39
    · have hF := ite_f hF c4
      refine lv_iconst (v := -1) hx hb dX0_hang_7 (by decide) ?_
      obtain ⟨rfl, rfl⟩ := sp_eq hF
      exact retI S hr hlocks hP hD hS dX0_hang_8
  have hl := lv_entry ([.ref (a (x0 + 3)), .int x1, .long x2]) (n := 4) (Nat.le_of_ble_eq_true rfl)
  rw [lg_entry_eq]
  generalize (lg_sl ([.ref (a (x0 + 3)), .int x1, .long x2]) ++ List.replicate (4 - (lg_sl ([.ref (a (x0 + 3)), .int x1, .long x2])).length) Slot.unset).toArray = ls at hl ⊢
  exact b_main _ _ _ hP hD hS hl

set_option maxRecDepth 100000 in
set_option maxHeartbeats 4000000 in
theorem m_X6_print  {x1 : Int32} {x2 : Int64} {u u' : Mem} {r : Int32}  (hF : F_X6_print  u x1 x2 = some (r, u')) : MC l D cc a tU adK adV yX6_print cX6_print 4 (some .int) 2 46 [.ref (a 0), .int x1, .long x2] u (some (.int r)) u' := by
  refine MM.ofW (by decide) (fun p e s m below meth c S hr hlocks hK hEs hP hD hS => ?_)
  have S : CallFix p m c cX6_print 4 s _ gtbl RX6 := S
  obtain ⟨hx, hb, hml, hown, hts⟩ := id S
  unfold F_X6_print at hF
  have b_main : BW p l e s m below meth c 2 46 [.ref (a 0), .int x1, .long x2] D (AC a) (some (.int r)) (wlC cc a u') 4 (wlC cc a u) 0 [(0, .ref (a 0)), (1, .int x1), (2, .long x2)] [] := by
    intro H locs ls hP hD hS hl
    refine lv_iload_n hx hb dX6_print_0 rfl (lv_at hl 1 rfl) ?_
    obtain ⟨r2, u1, e3, hF⟩ := bdI_some hF
    refine MM.callSi (m_X6_isKind e3) k_X6_59 S ecOK hEs hK ⟨by decide, by decide⟩ rfl rfl hl.1 (Nat.le_of_ble_eq_true rfl) dX6_print_1 ⟨Nat.le_refl _, Nat.le_refl _⟩ hP hD hS (fun H locs hP hD hS => ?_)
    refine lv_if_ne (tgt := 14) hx hb dX6_print_4 (by decide) (fun c4 => ?_) (fun c4 => ?_)
    · have hF := ite_f hF c4
      refine lv_aload_n hx hb dX6_print_14 rfl (lv_at hl 0 rfl) ?_
      refine va_get_w S hK hP _ c_SP rfl igX6 0 (by decide) q259 rfl rfl dX6_print_15 ?_
      obtain ⟨r6, u5, e7, hF⟩ := bdI_some hF
      refine MM.callVi (m_X0_isFull ⟨by decide, by decide⟩ e7) k_X6_68 S ecOK hEs hK ⟨by decide, by decide⟩ (va_recv hK hP rfl (c_AR ⟨by decide, by decide⟩)) rfl rfl hl.1 (Nat.le_of_ble_eq_true rfl) dX6_print_18 ⟨Nat.le_refl _, Nat.le_refl _⟩ hP hD hS (fun H locs hP hD hS => ?_)
      refine lv_if_eq (tgt := 31) hx hb dX6_print_21 (by decide) (fun c8 => ?_) (fun c8 => ?_)
      · have hF := ite_t hF c8
        refine lv_aload_n hx hb dX6_print_31 rfl (lv_at hl 0 rfl) ?_
        refine va_get_w S hK hP _ c_SP rfl igX6 0 (by decide) q259 rfl rfl dX6_print_32 ?_
        refine lv_iload_n hx hb dX6_print_35 rfl (lv_at hl 1 rfl) ?_
        refine lv_lload_n hx hb dX6_print_36 rfl (lv_at hl 2 rfl) ?_
        obtain ⟨r10, u9, e11, hF⟩ := bdI_some hF
        refine MM.callVi (m_X0_hang ⟨by decide, by decide⟩ e11) k_X6_73 S ecOK hEs hK ⟨by decide, by decide⟩ (va_recv hK hP rfl (c_AR ⟨by decide, by decide⟩)) rfl rfl hl.1 (Nat.le_of_ble_eq_true rfl) dX6_print_37 ⟨Nat.le_refl _, Nat.le_refl _⟩ hP hD hS (fun H locs hP hD hS => ?_)
        obtain ⟨rfl, rfl⟩ := sp_eq hF
        exact retI S hr hlocks hP hD hS dX6_print_40
      · have hF := ite_f hF c8
        refine lv_aload_n hx hb dX6_print_24 rfl (lv_at hl 0 rfl) ?_
        refine lv_ldc hx hb hown (hts _ q300) dX6_print_25 ?_
        obtain ⟨r13, u12, e14, hF⟩ := bdI_some hF
        refine MM.callVi (m_X6_found e14) k_X6_64 S ecOK hEs hK ⟨by decide, by decide⟩ (va_recv hK hP rfl c_SP) rfl rfl hl.1 (Nat.le_of_ble_eq_true rfl) dX6_print_27 ⟨Nat.le_refl _, Nat.le_refl _⟩ hP hD hS (fun H locs hP hD hS => ?_)
        obtain ⟨rfl, rfl⟩ := sp_eq hF
        exact retI S hr hlocks hP hD hS dX6_print_30
    · have hF := ite_t hF c4
      refine lv_aload_n hx hb dX6_print_7 rfl (lv_at hl 0 rfl) ?_
      refine lv_ldc hx hb hown (hts _ q291) dX6_print_8 ?_
      obtain ⟨r16, u15, e17, hF⟩ := bdI_some hF
      refine MM.callVi (m_X6_found e17) k_X6_64 S ecOK hEs hK ⟨by decide, by decide⟩ (va_recv hK hP rfl c_SP) rfl rfl hl.1 (Nat.le_of_ble_eq_true rfl) dX6_print_10 ⟨Nat.le_refl _, Nat.le_refl _⟩ hP hD hS (fun H locs hP hD hS => ?_)
      obtain ⟨rfl, rfl⟩ := sp_eq hF
      exact retI S hr hlocks hP hD hS dX6_print_13
  have hl := lv_entry ([.ref (a 0), .int x1, .long x2]) (n := 4) (Nat.le_of_ble_eq_true rfl)
  rw [lg_entry_eq]
  generalize (lg_sl ([.ref (a 0), .int x1, .long x2]) ++ List.replicate (4 - (lg_sl ([.ref (a 0), .int x1, .long x2])).length) Slot.unset).toArray = ls at hl ⊢
  exact b_main _ _ _ hP hD hS hl

set_option maxRecDepth 100000 in
set_option maxHeartbeats 4000000 in
theorem m_X0_has {x0 : Nat} {x1 : Int32} {u u' : Mem} {r : Int32} (hx0 : 1 ≤ x0 ∧ x0 ≤ 3) (hF : F_X0_has x0 u x1 = some (r, u')) : MC l D cc a tU adK adV yX0_has cX0_has 2 (some .boolean) 0 0 [.ref (a (x0 + 3)), .int x1] u (some (.int r)) u' := by
  refine MM.ofW (by decide) (fun p e s m below meth c S hr hlocks hK hEs hP hD hS => ?_)
  have S : CallFix p m c cX0_has 2 s _ gtbl RX0 := S
  obtain ⟨hx, hb, hml, hown, hts⟩ := id S
  have b17 : ∀  (u : Mem) (y0 : Int32) , F_X0_has_17  u y0 = some (r, u') → BW p l e s m below meth c 0 0 [.ref (a (x0 + 3)), .int x1] D (AC a) (some (.int r)) (wlC cc a u') 2 (wlC cc a u) 17 [] [.int y0] := by
    intro  u y0 hF H locs ls hP hD hS hl
    unfold F_X0_has_17 at hF
    obtain ⟨hz1, hF⟩ := gz_some hF
    obtain ⟨rfl, rfl⟩ := sp_eq hF
    exact retZ S hr hlocks hP hD hS hz1 dX0_has_17
  have b16 : ∀  (u : Mem)  , F_X0_has_16  u  = some (r, u') → BW p l e s m below meth c 0 0 [.ref (a (x0 + 3)), .int x1] D (AC a) (some (.int r)) (wlC cc a u') 2 (wlC cc a u) 16 [] [] := by
    intro  u  hF H locs ls hP hD hS hl
    unfold F_X0_has_16 at hF
    refine lv_iconst (v := 0) hx hb dX0_has_16 (by decide) ?_
    exact b17 _ _  hF H locs ls hP hD hS (lv_sub hl [] rfl)
  unfold F_X0_has at hF
  have b_main : BW p l e s m below meth c 0 0 [.ref (a (x0 + 3)), .int x1] D (AC a) (some (.int r)) (wlC cc a u') 2 (wlC cc a u) 0 [(0, .ref (a (x0 + 3))), (1, .int x1)] [] := by
    intro H locs ls hP hD hS hl
    refine lv_iload_n hx hb dX0_has_0 rfl (lv_at hl 1 rfl) ?_
    refine lv_if_lt (tgt := 16) hx hb dX0_has_1 (by decide) (fun c2 => ?_) (fun c2 => ?_)
    · have hF := ite_t hF c2
      exact b16 _  hF H locs ls hP hD hS (lv_sub hl [] rfl)
    · have hF := ite_f hF c2
      refine lv_iload_n hx hb dX0_has_4 rfl (lv_at hl 1 rfl) ?_
      refine lv_aload_n hx hb dX0_has_5 rfl (lv_at hl 0 rfl) ?_
      refine va_get_w S hK hP _ (c_AR hx0) rfl igX0 1 (by decide) q138 rfl rfl dX0_has_6 ?_
      refine lv_icmp_ge (tgt := 16) hx hb dX0_has_9 (by decide) (fun c3 => ?_) (fun c3 => ?_)
      · have hF := ite_t hF c3
        exact b16 _  hF H locs ls hP hD hS (lv_sub hl [] rfl)
      · have hF := ite_f hF c3
        refine lv_iconst (v := 1) hx hb dX0_has_12 (by decide) ?_
        refine lv_goto (tgt := 17) hx hb dX0_has_13 (by decide) ?_
        exact b17 _ _  hF H locs ls hP hD hS (lv_sub hl [] rfl)
  have hl := lv_entry ([.ref (a (x0 + 3)), .int x1]) (n := 2) (Nat.le_of_ble_eq_true rfl)
  rw [lg_entry_eq]
  generalize (lg_sl ([.ref (a (x0 + 3)), .int x1]) ++ List.replicate (2 - (lg_sl ([.ref (a (x0 + 3)), .int x1])).length) Slot.unset).toArray = ls at hl ⊢
  exact b_main _ _ _ hP hD hS hl

set_option maxRecDepth 100000 in
set_option maxHeartbeats 4000000 in
theorem m_X1_trueWidth {x0 : Nat}  {u u' : Mem} {r : Int32} (hx0 : 28 ≤ x0 ∧ x0 ≤ 63) (hF : F_X1_trueWidth x0 u  = some (r, u')) : MC l D cc a tU adK adV yX1_trueWidth cX1_trueWidth 1 (some .int) 0 0 [.ref (a x0)] u (some (.int r)) u' := by
  refine MM.ofW (by decide) (fun p e s m below meth c S hr hlocks hK hEs hP hD hS => ?_)
  have S : CallFix p m c cX1_trueWidth 1 s _ gtbl RX1 := S
  obtain ⟨hx, hb, hml, hown, hts⟩ := id S
  have b93 : ∀  (u : Mem) (v0 : Nat) (hv0 : 28 ≤ v0 ∧ v0 ≤ 63), F_X1_trueWidth_93  u v0 = some (r, u') → BW p l e s m below meth c 0 0 [.ref (a x0)] D (AC a) (some (.int r)) (wlC cc a u') 1 (wlC cc a u) 93 [(0, .ref (a v0))] [] := by
    intro  u v0 hv0 hF H locs ls hP hD hS hl
    unfold F_X1_trueWidth_93 at hF
    refine lv_aload_n hx hb dX1_trueWidth_93 rfl (lv_at hl 0 rfl) ?_
    refine va_get_w S hK hP _ (c_PR hv0) rfl igX1 1 (by decide) q105 rfl rfl dX1_trueWidth_94 ?_
    obtain ⟨rfl, rfl⟩ := sp_eq hF
    exact retI S hr hlocks hP hD hS dX1_trueWidth_97
  unfold F_X1_trueWidth at hF
  have b_main : BW p l e s m below meth c 0 0 [.ref (a x0)] D (AC a) (some (.int r)) (wlC cc a u') 1 (wlC cc a u) 0 [(0, .ref (a x0))] [] := by
    intro H locs ls hP hD hS hl
    refine lv_aload_n hx hb dX1_trueWidth_0 rfl (lv_at hl 0 rfl) ?_
    refine va_get_w S hK hP _ (c_PR hx0) rfl igX1 0 (by decide) q101 rfl rfl dX1_trueWidth_1 ?_
    by_cases w1 : (u.1 x0 0) = 1
    · have hF := ite_t hF w1
      refine lv_tableIn (off := 36) (tgt := 40) hx hb dX1_trueWidth_4 (by rw [w1]; decide) (by rw [w1]; decide) (by rw [w1]; rfl) (by decide) ?_
      refine lv_bipush (v := 100) hx hb dX1_trueWidth_40 (by decide) ?_
      refine lv_aload_n hx hb dX1_trueWidth_42 rfl (lv_at hl 0 rfl) ?_
      refine va_get_w S hK hP _ (c_PR hx0) rfl igX1 1 (by decide) q105 rfl rfl dX1_trueWidth_43 ?_
      refine lv_imul hx hb dX1_trueWidth_46 ?_
      refine lv_bipush (v := 90) hx hb dX1_trueWidth_47 (by decide) ?_
      refine lv_idiv hx hb dX1_trueWidth_49 (by decide) ?_
      obtain ⟨rfl, rfl⟩ := sp_eq hF
      exact retI S hr hlocks hP hD hS dX1_trueWidth_50
    · have hF := ite_f hF w1
      by_cases w2 : (u.1 x0 0) = 2
      · have hF := ite_t hF w2
        refine lv_tableIn (off := 47) (tgt := 51) hx hb dX1_trueWidth_4 (by rw [w2]; decide) (by rw [w2]; decide) (by rw [w2]; rfl) (by decide) ?_
        refine lv_bipush (v := 100) hx hb dX1_trueWidth_51 (by decide) ?_
        refine lv_aload_n hx hb dX1_trueWidth_53 rfl (lv_at hl 0 rfl) ?_
        refine va_get_w S hK hP _ (c_PR hx0) rfl igX1 1 (by decide) q105 rfl rfl dX1_trueWidth_54 ?_
        refine lv_imul hx hb dX1_trueWidth_57 ?_
        refine lv_bipush (v := 97) hx hb dX1_trueWidth_58 (by decide) ?_
        refine lv_idiv hx hb dX1_trueWidth_60 (by decide) ?_
        obtain ⟨rfl, rfl⟩ := sp_eq hF
        exact retI S hr hlocks hP hD hS dX1_trueWidth_61
      · have hF := ite_f hF w2
        by_cases w3 : (u.1 x0 0) = 3
        · have hF := ite_t hF w3
          refine lv_tableIn (off := 58) (tgt := 62) hx hb dX1_trueWidth_4 (by rw [w3]; decide) (by rw [w3]; decide) (by rw [w3]; rfl) (by decide) ?_
          refine lv_bipush (v := 100) hx hb dX1_trueWidth_62 (by decide) ?_
          refine lv_aload_n hx hb dX1_trueWidth_64 rfl (lv_at hl 0 rfl) ?_
          refine va_get_w S hK hP _ (c_PR hx0) rfl igX1 1 (by decide) q105 rfl rfl dX1_trueWidth_65 ?_
          refine lv_imul hx hb dX1_trueWidth_68 ?_
          refine lv_bipush (v := 97) hx hb dX1_trueWidth_69 (by decide) ?_
          refine lv_idiv hx hb dX1_trueWidth_71 (by decide) ?_
          refine lv_bipush (v := 10) hx hb dX1_trueWidth_72 (by decide) ?_
          refine lv_iadd hx hb dX1_trueWidth_74 ?_
          obtain ⟨rfl, rfl⟩ := sp_eq hF
          exact retI S hr hlocks hP hD hS dX1_trueWidth_75
        · have hF := ite_f hF w3
          by_cases w4 : (u.1 x0 0) = 4
          · have hF := ite_t hF w4
            refine lv_tableIn (off := 89) (tgt := 93) hx hb dX1_trueWidth_4 (by rw [w4]; decide) (by rw [w4]; decide) (by rw [w4]; rfl) (by decide) ?_
            exact b93 _ _ hx0 hF H locs ls hP hD hS (lv_sub hl [0] rfl)
          · have hF := ite_f hF w4
            by_cases w5 : (u.1 x0 0) = 5
            · have hF := ite_t hF w5
              refine lv_tableIn (off := 72) (tgt := 76) hx hb dX1_trueWidth_4 (by rw [w5]; decide) (by rw [w5]; decide) (by rw [w5]; rfl) (by decide) ?_
              refine lv_bipush (v := 100) hx hb dX1_trueWidth_76 (by decide) ?_
              refine lv_bipush (v := 100) hx hb dX1_trueWidth_78 (by decide) ?_
              refine lv_aload_n hx hb dX1_trueWidth_80 rfl (lv_at hl 0 rfl) ?_
              refine va_get_w S hK hP _ (c_PR hx0) rfl igX1 1 (by decide) q105 rfl rfl dX1_trueWidth_81 ?_
              refine lv_imul hx hb dX1_trueWidth_84 ?_
              refine lv_bipush (v := 90) hx hb dX1_trueWidth_85 (by decide) ?_
              refine lv_idiv hx hb dX1_trueWidth_87 (by decide) ?_
              refine lv_imul hx hb dX1_trueWidth_88 ?_
              refine lv_bipush (v := 80) hx hb dX1_trueWidth_89 (by decide) ?_
              refine lv_idiv hx hb dX1_trueWidth_91 (by decide) ?_
              obtain ⟨rfl, rfl⟩ := sp_eq hF
              exact retI S hr hlocks hP hD hS dX1_trueWidth_92
            · have hF := ite_f hF w5
              refine lv_tableOut (tgt := 93) hx hb dX1_trueWidth_4 (by have zw1 := ne_toInt (z := 1) w1 (by decide); have zw2 := ne_toInt (z := 2) w2 (by decide); have zw3 := ne_toInt (z := 3) w3 (by decide); have zw4 := ne_toInt (z := 4) w4 (by decide); have zw5 := ne_toInt (z := 5) w5 (by decide); omega) (by decide) ?_
              exact b93 _ _ hx0 hF H locs ls hP hD hS (lv_sub hl [0] rfl)
  have hl := lv_entry ([.ref (a x0)]) (n := 1) (Nat.le_of_ble_eq_true rfl)
  rw [lg_entry_eq]
  generalize (lg_sl ([.ref (a x0)]) ++ List.replicate (1 - (lg_sl ([.ref (a x0)])).length) Slot.unset).toArray = ls at hl ⊢
  exact b_main _ _ _ hP hD hS hl

set_option maxRecDepth 100000 in
set_option maxHeartbeats 4000000 in
theorem m_X1_hidden {x0 : Nat}  {u u' : Mem} {r : Int64} (hx0 : 28 ≤ x0 ∧ x0 ≤ 63) (hF : F_X1_hidden x0 u  = some (r, u')) : MC l D cc a tU adK adV yX1_hidden cX1_hidden 3 (some .long) 0 0 [.ref (a x0)] u (some (.long r)) u' := by
  refine MM.ofW (by decide) (fun p e s m below meth c S hr hlocks hK hEs hP hD hS => ?_)
  have S : CallFix p m c cX1_hidden 3 s _ gtbl RX1 := S
  obtain ⟨hx, hb, hml, hown, hts⟩ := id S
  have b14 : ∀  (u : Mem) (v0 : Nat) (y0 : Int64) (hv0 : 28 ≤ v0 ∧ v0 ≤ 63), F_X1_hidden_14  u v0 y0 = some (r, u') → BW p l e s m below meth c 0 0 [.ref (a x0)] D (AC a) (some (.long r)) (wlC cc a u') 3 (wlC cc a u) 14 [(0, .ref (a v0))] [.long y0] := by
    intro  u v0 y0 hv0 hF H locs ls hP hD hS hl
    unfold F_X1_hidden_14 at hF
    refine lv_lstore_n (lv' := [(1, .long _), (0, .ref _)]) hx hb dX1_hidden_14 rfl hl (by decide) rfl (fun ls hl => ?_)
    refine lv_aload_n hx hb dX1_hidden_15 rfl (lv_at hl 1 rfl) ?_
    refine va_get_w S hK hP _ (c_PR hv0) rfl igX1 0 (by decide) q101 rfl rfl dX1_hidden_16 ?_
    by_cases w1 : (u.1 v0 0) = 1
    · have hF := ite_t hF w1
      refine lv_lookup (off := 25) (tgt := 44) hx hb dX1_hidden_19 (by decide) (by rw [w1]; rfl) (by decide) ?_
      refine lv_lload_n hx hb dX1_hidden_44 rfl (lv_at hl 0 rfl) ?_
      refine lv_ldc2 hx hb hown (hts _ q332) dX1_hidden_45 ?_
      refine lv_lor hx hb dX1_hidden_48 ?_
      obtain ⟨rfl, rfl⟩ := sp_eq hF
      exact retL S hr hlocks hP hD hS dX1_hidden_49
    · have hF := ite_f hF w1
      by_cases w2 : (u.1 v0 0) = 5
      · have hF := ite_t hF w2
        refine lv_lookup (off := 31) (tgt := 50) hx hb dX1_hidden_19 (by decide) (by rw [w2]; rfl) (by decide) ?_
        refine lv_lload_n hx hb dX1_hidden_50 rfl (lv_at hl 0 rfl) ?_
        refine lv_ldc2 hx hb hown (hts _ q332) dX1_hidden_51 ?_
        refine lv_lor hx hb dX1_hidden_54 ?_
        refine lv_ldc2 hx hb hown (hts _ q333) dX1_hidden_55 ?_
        refine lv_lor hx hb dX1_hidden_58 ?_
        obtain ⟨rfl, rfl⟩ := sp_eq hF
        exact retL S hr hlocks hP hD hS dX1_hidden_59
      · have hF := ite_f hF w2
        refine lv_lookup (off := 41) (tgt := 60) hx hb dX1_hidden_19 (by decide) (by have zw1 := ne_toInt (z := 1) w1 (by decide); have zw2 := ne_toInt (z := 5) w2 (by decide); simp [Op.lookupswitch.offset, Ne.symm zw1, Ne.symm zw2]) (by decide) ?_
        refine lv_lload_n hx hb dX1_hidden_60 rfl (lv_at hl 0 rfl) ?_
        obtain ⟨rfl, rfl⟩ := sp_eq hF
        exact retL S hr hlocks hP hD hS dX1_hidden_61
  unfold F_X1_hidden at hF
  have b_main : BW p l e s m below meth c 0 0 [.ref (a x0)] D (AC a) (some (.long r)) (wlC cc a u') 3 (wlC cc a u) 0 [(0, .ref (a x0))] [] := by
    intro H locs ls hP hD hS hl
    refine lv_aload_n hx hb dX1_hidden_0 rfl (lv_at hl 0 rfl) ?_
    refine va_get_w S hK hP _ (c_PR hx0) rfl igX1 3 (by decide) q114 rfl rfl dX1_hidden_1 ?_
    refine lv_if_eq (tgt := 11) hx hb dX1_hidden_4 (by decide) (fun c3 => ?_) (fun c3 => ?_)
    · have hF := ite_t hF c3
      refine lv_ldc2 hx hb hown (hts _ q331) dX1_hidden_11 ?_
      exact b14 _ _ _ hx0 hF H locs ls hP hD hS (lv_sub hl [0] rfl)
    · have hF := ite_f hF c3
      refine lv_lconst (v := 0) hx hb dX1_hidden_7 (by decide) ?_
      refine lv_goto (tgt := 14) hx hb dX1_hidden_8 (by decide) ?_
      exact b14 _ _ _ hx0 hF H locs ls hP hD hS (lv_sub hl [0] rfl)
  have hl := lv_entry ([.ref (a x0)]) (n := 3) (Nat.le_of_ble_eq_true rfl)
  rw [lg_entry_eq]
  generalize (lg_sl ([.ref (a x0)]) ++ List.replicate (3 - (lg_sl ([.ref (a x0)])).length) Slot.unset).toArray = ls at hl ⊢
  exact b_main _ _ _ hP hD hS hl

set_option maxRecDepth 100000 in
set_option maxHeartbeats 4000000 in
theorem m_X1_shown {x0 : Nat}  {u u' : Mem} {r : Int64} (hx0 : 28 ≤ x0 ∧ x0 ≤ 63) (hF : F_X1_shown x0 u  = some (r, u')) : MC l D cc a tU adK adV yX1_shown cX1_shown 1 (some .long) 1 22 [.ref (a x0)] u (some (.long r)) u' := by
  refine MM.ofW (by decide) (fun p e s m below meth c S hr hlocks hK hEs hP hD hS => ?_)
  have S : CallFix p m c cX1_shown 1 s _ gtbl RX1 := S
  obtain ⟨hx, hb, hml, hown, hts⟩ := id S
  unfold F_X1_shown at hF
  have b_main : BW p l e s m below meth c 1 22 [.ref (a x0)] D (AC a) (some (.long r)) (wlC cc a u') 1 (wlC cc a u) 0 [(0, .ref (a x0))] [] := by
    intro H locs ls hP hD hS hl
    refine lv_aload_n hx hb dX1_shown_0 rfl (lv_at hl 0 rfl) ?_
    refine va_get_w S hK hP _ (c_PR hx0) rfl igX1 4 (by decide) q119 rfl rfl dX1_shown_1 ?_
    refine lv_aload_n hx hb dX1_shown_4 rfl (lv_at hl 0 rfl) ?_
    obtain ⟨r2, u1, e3, hF⟩ := bdL_some hF
    refine MM.callVl (m_X1_hidden hx0 e3) k_X1_37 S ecOK hEs hK ⟨by decide, by decide⟩ (va_recv hK hP rfl (c_PR hx0)) rfl rfl hl.1 (Nat.le_of_ble_eq_true rfl) dX1_shown_5 ⟨Nat.le_refl _, Nat.le_refl _⟩ hP hD hS (fun H locs hP hD hS => ?_)
    refine lv_ldc2 hx hb hown (hts _ q334) dX1_shown_8 ?_
    refine lv_lxor hx hb dX1_shown_11 ?_
    refine lv_land hx hb dX1_shown_12 ?_
    obtain ⟨rfl, rfl⟩ := sp_eq hF
    exact retL S hr hlocks hP hD hS dX1_shown_13
  have hl := lv_entry ([.ref (a x0)]) (n := 1) (Nat.le_of_ble_eq_true rfl)
  rw [lg_entry_eq]
  generalize (lg_sl ([.ref (a x0)]) ++ List.replicate (1 - (lg_sl ([.ref (a x0)])).length) Slot.unset).toArray = ls at hl ⊢
  exact b_main _ _ _ hP hD hS hl

set_option maxRecDepth 100000 in
set_option maxHeartbeats 4000000 in
theorem m_J13_bitCount_95d88  {x0 : Int64} {u u' : Mem} {r : Int32}  (hF : F_J13_bitCount_95d88  u x0 = some (r, u')) : MC l D cc a tU adK adV yJ13_bitCount_95d88 cJ13_bitCount_95d88 2 (some .int) 0 0 [.long x0] u (some (.int r)) u' := by
  refine MM.ofW (by decide) (fun p e s m below meth c S hr hlocks hK hEs hP hD hS => ?_)
  have S : CallFix p m c cJ13_bitCount_95d88 2 s _ gtbl RJ13 := S
  obtain ⟨hx, hb, hml, hown, hts⟩ := id S
  unfold F_J13_bitCount_95d88 at hF
  have b_main : BW p l e s m below meth c 0 0 [.long x0] D (AC a) (some (.int r)) (wlC cc a u') 2 (wlC cc a u) 0 [(0, .long x0)] [] := by
    intro H locs ls hP hD hS hl
    refine lv_lload_n hx hb dJ13_bitCount_95d88_0 rfl (lv_at hl 0 rfl) ?_
    refine lv_lload_n hx hb dJ13_bitCount_95d88_1 rfl (lv_at hl 0 rfl) ?_
    refine lv_iconst (v := 1) hx hb dJ13_bitCount_95d88_2 (by decide) ?_
    refine lv_lushr hx hb dJ13_bitCount_95d88_3 rfl ?_
    refine lv_ldc2 hx hb hown (hts _ q338) dJ13_bitCount_95d88_4 ?_
    refine lv_land hx hb dJ13_bitCount_95d88_7 ?_
    refine lv_lsub hx hb dJ13_bitCount_95d88_8 ?_
    refine lv_lstore_n (lv' := [(0, .long _)]) hx hb dJ13_bitCount_95d88_9 rfl hl (by decide) rfl (fun ls hl => ?_)
    refine lv_lload_n hx hb dJ13_bitCount_95d88_10 rfl (lv_at hl 0 rfl) ?_
    refine lv_ldc2 hx hb hown (hts _ q339) dJ13_bitCount_95d88_11 ?_
    refine lv_land hx hb dJ13_bitCount_95d88_14 ?_
    refine lv_lload_n hx hb dJ13_bitCount_95d88_15 rfl (lv_at hl 0 rfl) ?_
    refine lv_iconst (v := 2) hx hb dJ13_bitCount_95d88_16 (by decide) ?_
    refine lv_lushr hx hb dJ13_bitCount_95d88_17 rfl ?_
    refine lv_ldc2 hx hb hown (hts _ q339) dJ13_bitCount_95d88_18 ?_
    refine lv_land hx hb dJ13_bitCount_95d88_21 ?_
    refine lv_ladd hx hb dJ13_bitCount_95d88_22 ?_
    refine lv_lstore_n (lv' := [(0, .long _)]) hx hb dJ13_bitCount_95d88_23 rfl hl (by decide) rfl (fun ls hl => ?_)
    refine lv_lload_n hx hb dJ13_bitCount_95d88_24 rfl (lv_at hl 0 rfl) ?_
    refine lv_lload_n hx hb dJ13_bitCount_95d88_25 rfl (lv_at hl 0 rfl) ?_
    refine lv_iconst (v := 4) hx hb dJ13_bitCount_95d88_26 (by decide) ?_
    refine lv_lushr hx hb dJ13_bitCount_95d88_27 rfl ?_
    refine lv_ladd hx hb dJ13_bitCount_95d88_28 ?_
    refine lv_ldc2 hx hb hown (hts _ q340) dJ13_bitCount_95d88_29 ?_
    refine lv_land hx hb dJ13_bitCount_95d88_32 ?_
    refine lv_lstore_n (lv' := [(0, .long _)]) hx hb dJ13_bitCount_95d88_33 rfl hl (by decide) rfl (fun ls hl => ?_)
    refine lv_lload_n hx hb dJ13_bitCount_95d88_34 rfl (lv_at hl 0 rfl) ?_
    refine lv_lload_n hx hb dJ13_bitCount_95d88_35 rfl (lv_at hl 0 rfl) ?_
    refine lv_bipush (v := 8) hx hb dJ13_bitCount_95d88_36 (by decide) ?_
    refine lv_lushr hx hb dJ13_bitCount_95d88_38 rfl ?_
    refine lv_ladd hx hb dJ13_bitCount_95d88_39 ?_
    refine lv_lstore_n (lv' := [(0, .long _)]) hx hb dJ13_bitCount_95d88_40 rfl hl (by decide) rfl (fun ls hl => ?_)
    refine lv_lload_n hx hb dJ13_bitCount_95d88_41 rfl (lv_at hl 0 rfl) ?_
    refine lv_lload_n hx hb dJ13_bitCount_95d88_42 rfl (lv_at hl 0 rfl) ?_
    refine lv_bipush (v := 16) hx hb dJ13_bitCount_95d88_43 (by decide) ?_
    refine lv_lushr hx hb dJ13_bitCount_95d88_45 rfl ?_
    refine lv_ladd hx hb dJ13_bitCount_95d88_46 ?_
    refine lv_lstore_n (lv' := [(0, .long _)]) hx hb dJ13_bitCount_95d88_47 rfl hl (by decide) rfl (fun ls hl => ?_)
    refine lv_lload_n hx hb dJ13_bitCount_95d88_48 rfl (lv_at hl 0 rfl) ?_
    refine lv_lload_n hx hb dJ13_bitCount_95d88_49 rfl (lv_at hl 0 rfl) ?_
    refine lv_bipush (v := 32) hx hb dJ13_bitCount_95d88_50 (by decide) ?_
    refine lv_lushr hx hb dJ13_bitCount_95d88_52 rfl ?_
    refine lv_ladd hx hb dJ13_bitCount_95d88_53 ?_
    refine lv_lstore_n (lv' := [(0, .long _)]) hx hb dJ13_bitCount_95d88_54 rfl hl (by decide) rfl (fun ls hl => ?_)
    refine lv_lload_n hx hb dJ13_bitCount_95d88_55 rfl (lv_at hl 0 rfl) ?_
    refine lv_l2i hx hb dJ13_bitCount_95d88_56 rfl ?_
    refine lv_bipush (v := 127) hx hb dJ13_bitCount_95d88_57 (by decide) ?_
    refine lv_iand hx hb dJ13_bitCount_95d88_59 ?_
    obtain ⟨rfl, rfl⟩ := sp_eq hF
    exact retI S hr hlocks hP hD hS dJ13_bitCount_95d88_60
  have hl := lv_entry ([.long x0]) (n := 2) (Nat.le_of_ble_eq_true rfl)
  rw [lg_entry_eq]
  generalize (lg_sl ([.long x0]) ++ List.replicate (2 - (lg_sl ([.long x0])).length) Slot.unset).toArray = ls at hl ⊢
  exact b_main _ _ _ hP hD hS hl

set_option maxRecDepth 100000 in
set_option maxHeartbeats 4000000 in
theorem m_X6_of  {x1 : Int32} {x2 : Int32} {u u' : Mem} {r : Int32}  (hF : F_X6_of  u x1 x2 = some (r, u')) : MC l D cc a tU adK adV yX6_of cX6_of 4 (some .int) 2 42 [.ref (a 0), .int x1, .int x2] u (some (.int r)) u' := by
  refine MM.ofW (by decide) (fun p e s m below meth c S hr hlocks hK hEs hP hD hS => ?_)
  have S : CallFix p m c cX6_of 4 s _ gtbl RX6 := S
  obtain ⟨hx, hb, hml, hown, hts⟩ := id S
  have b95 : ∀  (u : Mem) (y0 : Int32) , F_X6_of_95  u y0 = some (r, u') → BW p l e s m below meth c 2 42 [.ref (a 0), .int x1, .int x2] D (AC a) (some (.int r)) (wlC cc a u') 4 (wlC cc a u) 95 [] [.int y0] := by
    intro  u y0 hF H locs ls hP hD hS hl
    unfold F_X6_of_95 at hF
    obtain ⟨rfl, rfl⟩ := sp_eq hF
    exact retI S hr hlocks hP hD hS dX6_of_95
  unfold F_X6_of at hF
  have b_main : BW p l e s m below meth c 2 42 [.ref (a 0), .int x1, .int x2] D (AC a) (some (.int r)) (wlC cc a u') 4 (wlC cc a u) 0 [(0, .ref (a 0)), (1, .int x1), (2, .int x2)] [] := by
    intro H locs ls hP hD hS hl
    refine lv_aload_n hx hb dX6_of_0 rfl (lv_at hl 0 rfl) ?_
    refine va_get_w S hK hP _ c_SP rfl igX6 0 (by decide) q259 rfl rfl dX6_of_1 ?_
    refine lv_iload_n hx hb dX6_of_4 rfl (lv_at hl 1 rfl) ?_
    obtain ⟨r2, u1, e3, hF⟩ := bdI_some hF
    refine MM.callVi (m_X0_has ⟨by decide, by decide⟩ e3) k_X6_77 S ecOK hEs hK ⟨by decide, by decide⟩ (va_recv hK hP rfl (c_AR ⟨by decide, by decide⟩)) rfl rfl hl.1 (Nat.le_of_ble_eq_true rfl) dX6_of_5 ⟨Nat.le_refl _, Nat.le_refl _⟩ hP hD hS (fun H locs hP hD hS => ?_)
    refine lv_if_ne (tgt := 18) hx hb dX6_of_8 (by decide) (fun c4 => ?_) (fun c4 => ?_)
    · have hF := ite_f hF c4
      refine lv_aload_n hx hb dX6_of_18 rfl (lv_at hl 0 rfl) ?_
      refine va_get_w S hK hP _ c_SP rfl igX6 0 (by decide) q259 rfl rfl dX6_of_19 ?_
      refine va_get_w S hK hP _ (c_AR ⟨by decide, by decide⟩) rfl igX0 0 (by decide) q135 rfl rfl dX6_of_22 ?_
      refine lv_iload_n hx hb dX6_of_25 rfl (lv_at hl 1 rfl) ?_
      obtain ⟨hin5, hF⟩ := gd_some hF
      have hp6 := r_PR (t := 1) ⟨by decide, by decide⟩ hin5
      refine cPald S hK hP ⟨by decide, by decide⟩ hin5 dX6_of_26 ?_
      refine lv_astore_n (lv' := [(3, .ref _), (0, .ref _), (1, .int _), (2, .int _)]) hx hb dX6_of_27 rfl hl (by decide) rfl (fun ls hl => ?_)
      refine lv_iload_n hx hb dX6_of_28 rfl (lv_at hl 3 rfl) ?_
      by_cases w7 : x2 = 0
      · have hF := ite_t hF w7
        refine lv_tableIn (off := 39) (tgt := 68) hx hb dX6_of_29 (by rw [w7]; decide) (by rw [w7]; decide) (by rw [w7]; rfl) (by decide) ?_
        refine lv_aload_n hx hb dX6_of_68 rfl (lv_at hl 0 rfl) ?_
        refine va_get_w S hK hP _ (c_PR hp6) rfl igX1 0 (by decide) q102 rfl rfl dX6_of_69 ?_
        obtain ⟨rfl, rfl⟩ := sp_eq hF
        exact retI S hr hlocks hP hD hS dX6_of_72
      · have hF := ite_f hF w7
        by_cases w8 : x2 = 1
        · have hF := ite_t hF w8
          refine lv_tableIn (off := 44) (tgt := 73) hx hb dX6_of_29 (by rw [w8]; decide) (by rw [w8]; decide) (by rw [w8]; rfl) (by decide) ?_
          refine lv_aload_n hx hb dX6_of_73 rfl (lv_at hl 0 rfl) ?_
          refine va_get_w S hK hP _ (c_PR hp6) rfl igX1 1 (by decide) q106 rfl rfl dX6_of_74 ?_
          obtain ⟨rfl, rfl⟩ := sp_eq hF
          exact retI S hr hlocks hP hD hS dX6_of_77
        · have hF := ite_f hF w8
          by_cases w9 : x2 = 2
          · have hF := ite_t hF w9
            refine lv_tableIn (off := 49) (tgt := 78) hx hb dX6_of_29 (by rw [w9]; decide) (by rw [w9]; decide) (by rw [w9]; rfl) (by decide) ?_
            refine lv_aload_n hx hb dX6_of_78 rfl (lv_at hl 0 rfl) ?_
            refine va_get_w S hK hP _ (c_PR hp6) rfl igX1 2 (by decide) q110 rfl rfl dX6_of_79 ?_
            obtain ⟨rfl, rfl⟩ := sp_eq hF
            exact retI S hr hlocks hP hD hS dX6_of_82
          · have hF := ite_f hF w9
            by_cases w10 : x2 = 3
            · have hF := ite_t hF w10
              refine lv_tableIn (off := 54) (tgt := 83) hx hb dX6_of_29 (by rw [w10]; decide) (by rw [w10]; decide) (by rw [w10]; rfl) (by decide) ?_
              refine lv_aload_n hx hb dX6_of_83 rfl (lv_at hl 0 rfl) ?_
              refine va_get_w S hK hP _ (c_PR hp6) rfl igX1 3 (by decide) q115 rfl rfl dX6_of_84 ?_
              refine lv_if_eq (tgt := 94) hx hb dX6_of_87 (by decide) (fun c11 => ?_) (fun c11 => ?_)
              · have hF := ite_t hF c11
                refine lv_iconst (v := 0) hx hb dX6_of_94 (by decide) ?_
                exact b95 _ _  hF H locs ls hP hD hS (lv_sub hl [] rfl)
              · have hF := ite_f hF c11
                refine lv_iconst (v := 1) hx hb dX6_of_90 (by decide) ?_
                refine lv_goto (tgt := 95) hx hb dX6_of_91 (by decide) ?_
                exact b95 _ _  hF H locs ls hP hD hS (lv_sub hl [] rfl)
            · have hF := ite_f hF w10
              by_cases w12 : x2 = 4
              · have hF := ite_t hF w12
                refine lv_tableIn (off := 67) (tgt := 96) hx hb dX6_of_29 (by rw [w12]; decide) (by rw [w12]; decide) (by rw [w12]; rfl) (by decide) ?_
                refine lv_aload_n hx hb dX6_of_96 rfl (lv_at hl 0 rfl) ?_
                obtain ⟨r14, u13, e15, hF⟩ := bdI_some hF
                refine MM.callVi (m_X1_trueWidth hp6 e15) k_X6_99 S ecOK hEs hK ⟨by decide, by decide⟩ (va_recv hK hP rfl (c_PR hp6)) rfl rfl hl.1 (Nat.le_of_ble_eq_true rfl) dX6_of_97 ⟨Nat.le_refl _, Nat.le_refl _⟩ hP hD hS (fun H locs hP hD hS => ?_)
                obtain ⟨rfl, rfl⟩ := sp_eq hF
                exact retI S hr hlocks hP hD hS dX6_of_100
              · have hF := ite_f hF w12
                by_cases w16 : x2 = 5
                · have hF := ite_t hF w16
                  refine lv_tableIn (off := 72) (tgt := 101) hx hb dX6_of_29 (by rw [w16]; decide) (by rw [w16]; decide) (by rw [w16]; rfl) (by decide) ?_
                  refine lv_aload_n hx hb dX6_of_101 rfl (lv_at hl 0 rfl) ?_
                  obtain ⟨r18, u17, e19, hF⟩ := bdL_some hF
                  refine MM.callVl (m_X1_shown hp6 e19) k_X6_103 S ecOK hEs hK ⟨by decide, by decide⟩ (va_recv hK hP rfl (c_PR hp6)) rfl rfl hl.1 (Nat.le_of_ble_eq_true rfl) dX6_of_102 ⟨Nat.le_refl _, Nat.le_refl _⟩ hP hD hS (fun H locs hP hD hS => ?_)
                  obtain ⟨r21, u20, e22, hF⟩ := bdI_some hF
                  refine MM.callSi (m_J13_bitCount_95d88 e22) k_X6_107 S ecOK hEs hK ⟨by decide, by decide⟩ rfl rfl hl.1 (Nat.le_of_ble_eq_true rfl) dX6_of_105 ⟨Nat.le_refl _, Nat.le_refl _⟩ hP hD hS (fun H locs hP hD hS => ?_)
                  obtain ⟨rfl, rfl⟩ := sp_eq hF
                  exact retI S hr hlocks hP hD hS dX6_of_108
                · have hF := ite_f hF w16
                  refine lv_tableOut (tgt := 109) hx hb dX6_of_29 (by have zw7 := ne_toInt (z := 0) w7 (by decide); have zw8 := ne_toInt (z := 1) w8 (by decide); have zw9 := ne_toInt (z := 2) w9 (by decide); have zw10 := ne_toInt (z := 3) w10 (by decide); have zw12 := ne_toInt (z := 4) w12 (by decide); have zw16 := ne_toInt (z := 5) w16 (by decide); omega) (by decide) ?_
                  refine lv_aload_n hx hb dX6_of_109 rfl (lv_at hl 1 rfl) ?_
                  refine lv_ldc hx hb hown (hts _ q291) dX6_of_110 ?_
                  obtain ⟨r24, u23, e25, hF⟩ := bdI_some hF
                  refine MM.callVi (m_X6_found e25) k_X6_64 S ecOK hEs hK ⟨by decide, by decide⟩ (va_recv hK hP rfl c_SP) rfl rfl hl.1 (Nat.le_of_ble_eq_true rfl) dX6_of_112 ⟨Nat.le_refl _, Nat.le_refl _⟩ hP hD hS (fun H locs hP hD hS => ?_)
                  obtain ⟨rfl, rfl⟩ := sp_eq hF
                  exact retI S hr hlocks hP hD hS dX6_of_115
    · have hF := ite_t hF c4
      refine lv_aload_n hx hb dX6_of_11 rfl (lv_at hl 0 rfl) ?_
      refine lv_ldc hx hb hown (hts _ q291) dX6_of_12 ?_
      obtain ⟨r27, u26, e28, hF⟩ := bdI_some hF
      refine MM.callVi (m_X6_found e28) k_X6_64 S ecOK hEs hK ⟨by decide, by decide⟩ (va_recv hK hP rfl c_SP) rfl rfl hl.1 (Nat.le_of_ble_eq_true rfl) dX6_of_14 ⟨Nat.le_refl _, Nat.le_refl _⟩ hP hD hS (fun H locs hP hD hS => ?_)
      obtain ⟨rfl, rfl⟩ := sp_eq hF
      exact retI S hr hlocks hP hD hS dX6_of_17
  have hl := lv_entry ([.ref (a 0), .int x1, .int x2]) (n := 4) (Nat.le_of_ble_eq_true rfl)
  rw [lg_entry_eq]
  generalize (lg_sl ([.ref (a 0), .int x1, .int x2]) ++ List.replicate (4 - (lg_sl ([.ref (a 0), .int x1, .int x2])).length) Slot.unset).toArray = ls at hl ⊢
  exact b_main _ _ _ hP hD hS hl

set_option maxRecDepth 100000 in
set_option maxHeartbeats 4000000 in
theorem m_X6_marks  {x1 : Int32} {x2 : Int32} {u u' : Mem} {r : Int64}  (hF : F_X6_marks  u x1 x2 = some (r, u')) : MC l D cc a tU adK adV yX6_marks cX6_marks 4 (some .long) 2 42 [.ref (a 0), .int x1, .int x2] u (some (.long r)) u' := by
  refine MM.ofW (by decide) (fun p e s m below meth c S hr hlocks hK hEs hP hD hS => ?_)
  have S : CallFix p m c cX6_marks 4 s _ gtbl RX6 := S
  obtain ⟨hx, hb, hml, hown, hts⟩ := id S
  unfold F_X6_marks at hF
  have b_main : BW p l e s m below meth c 2 42 [.ref (a 0), .int x1, .int x2] D (AC a) (some (.long r)) (wlC cc a u') 4 (wlC cc a u) 0 [(0, .ref (a 0)), (1, .int x1), (2, .int x2)] [] := by
    intro H locs ls hP hD hS hl
    refine lv_aload_n hx hb dX6_marks_0 rfl (lv_at hl 0 rfl) ?_
    refine va_get_w S hK hP _ c_SP rfl igX6 0 (by decide) q259 rfl rfl dX6_marks_1 ?_
    refine lv_iload_n hx hb dX6_marks_4 rfl (lv_at hl 1 rfl) ?_
    obtain ⟨r2, u1, e3, hF⟩ := bdI_some hF
    refine MM.callVi (m_X0_has ⟨by decide, by decide⟩ e3) k_X6_77 S ecOK hEs hK ⟨by decide, by decide⟩ (va_recv hK hP rfl (c_AR ⟨by decide, by decide⟩)) rfl rfl hl.1 (Nat.le_of_ble_eq_true rfl) dX6_marks_5 ⟨Nat.le_refl _, Nat.le_refl _⟩ hP hD hS (fun H locs hP hD hS => ?_)
    refine lv_if_ne (tgt := 19) hx hb dX6_marks_8 (by decide) (fun c4 => ?_) (fun c4 => ?_)
    · have hF := ite_f hF c4
      refine lv_aload_n hx hb dX6_marks_19 rfl (lv_at hl 0 rfl) ?_
      refine va_get_w S hK hP _ c_SP rfl igX6 0 (by decide) q259 rfl rfl dX6_marks_20 ?_
      refine va_get_w S hK hP _ (c_AR ⟨by decide, by decide⟩) rfl igX0 0 (by decide) q135 rfl rfl dX6_marks_23 ?_
      refine lv_iload_n hx hb dX6_marks_26 rfl (lv_at hl 1 rfl) ?_
      obtain ⟨hin5, hF⟩ := gd_some hF
      have hp6 := r_PR (t := 1) ⟨by decide, by decide⟩ hin5
      refine cPald S hK hP ⟨by decide, by decide⟩ hin5 dX6_marks_27 ?_
      refine lv_astore_n (lv' := [(3, .ref _), (0, .ref _), (1, .int _), (2, .int _)]) hx hb dX6_marks_28 rfl hl (by decide) rfl (fun ls hl => ?_)
      refine lv_iload_n hx hb dX6_marks_29 rfl (lv_at hl 3 rfl) ?_
      by_cases w7 : x2 = 0
      · have hF := ite_t hF w7
        refine lv_tableIn (off := 26) (tgt := 56) hx hb dX6_marks_30 (by rw [w7]; decide) (by rw [w7]; decide) (by rw [w7]; rfl) (by decide) ?_
        refine lv_aload_n hx hb dX6_marks_56 rfl (lv_at hl 0 rfl) ?_
        refine va_get_w S hK hP _ (c_PR hp6) rfl igX1 4 (by decide) q120 rfl rfl dX6_marks_57 ?_
        obtain ⟨rfl, rfl⟩ := sp_eq hF
        exact retL S hr hlocks hP hD hS dX6_marks_60
      · have hF := ite_f hF w7
        by_cases w8 : x2 = 1
        · have hF := ite_t hF w8
          refine lv_tableIn (off := 31) (tgt := 61) hx hb dX6_marks_30 (by rw [w8]; decide) (by rw [w8]; decide) (by rw [w8]; rfl) (by decide) ?_
          refine lv_aload_n hx hb dX6_marks_61 rfl (lv_at hl 0 rfl) ?_
          obtain ⟨r10, u9, e11, hF⟩ := bdL_some hF
          refine MM.callVl (m_X1_shown hp6 e11) k_X6_103 S ecOK hEs hK ⟨by decide, by decide⟩ (va_recv hK hP rfl (c_PR hp6)) rfl rfl hl.1 (Nat.le_of_ble_eq_true rfl) dX6_marks_62 ⟨Nat.le_refl _, Nat.le_refl _⟩ hP hD hS (fun H locs hP hD hS => ?_)
          obtain ⟨rfl, rfl⟩ := sp_eq hF
          exact retL S hr hlocks hP hD hS dX6_marks_65
        · have hF := ite_f hF w8
          by_cases w12 : x2 = 2
          · have hF := ite_t hF w12
            refine lv_tableIn (off := 36) (tgt := 66) hx hb dX6_marks_30 (by rw [w12]; decide) (by rw [w12]; decide) (by rw [w12]; rfl) (by decide) ?_
            refine lv_aload_n hx hb dX6_marks_66 rfl (lv_at hl 0 rfl) ?_
            obtain ⟨r14, u13, e15, hF⟩ := bdL_some hF
            refine MM.callVl (m_X1_hidden hp6 e15) k_X6_117 S ecOK hEs hK ⟨by decide, by decide⟩ (va_recv hK hP rfl (c_PR hp6)) rfl rfl hl.1 (Nat.le_of_ble_eq_true rfl) dX6_marks_67 ⟨Nat.le_refl _, Nat.le_refl _⟩ hP hD hS (fun H locs hP hD hS => ?_)
            obtain ⟨rfl, rfl⟩ := sp_eq hF
            exact retL S hr hlocks hP hD hS dX6_marks_70
          · have hF := ite_f hF w12
            refine lv_tableOut (tgt := 71) hx hb dX6_marks_30 (by have zw7 := ne_toInt (z := 0) w7 (by decide); have zw8 := ne_toInt (z := 1) w8 (by decide); have zw12 := ne_toInt (z := 2) w12 (by decide); omega) (by decide) ?_
            refine lv_aload_n hx hb dX6_marks_71 rfl (lv_at hl 1 rfl) ?_
            refine lv_ldc hx hb hown (hts _ q291) dX6_marks_72 ?_
            obtain ⟨r17, u16, e18, hF⟩ := bdI_some hF
            refine MM.callVi (m_X6_found e18) k_X6_64 S ecOK hEs hK ⟨by decide, by decide⟩ (va_recv hK hP rfl c_SP) rfl rfl hl.1 (Nat.le_of_ble_eq_true rfl) dX6_marks_74 ⟨Nat.le_refl _, Nat.le_refl _⟩ hP hD hS (fun H locs hP hD hS => ?_)
            refine lv_i2l hx hb dX6_marks_77 rfl ?_
            obtain ⟨rfl, rfl⟩ := sp_eq hF
            exact retL S hr hlocks hP hD hS dX6_marks_78
    · have hF := ite_t hF c4
      refine lv_aload_n hx hb dX6_marks_11 rfl (lv_at hl 0 rfl) ?_
      refine lv_ldc hx hb hown (hts _ q291) dX6_marks_12 ?_
      obtain ⟨r20, u19, e21, hF⟩ := bdI_some hF
      refine MM.callVi (m_X6_found e21) k_X6_64 S ecOK hEs hK ⟨by decide, by decide⟩ (va_recv hK hP rfl c_SP) rfl rfl hl.1 (Nat.le_of_ble_eq_true rfl) dX6_marks_14 ⟨Nat.le_refl _, Nat.le_refl _⟩ hP hD hS (fun H locs hP hD hS => ?_)
      refine lv_i2l hx hb dX6_marks_17 rfl ?_
      obtain ⟨rfl, rfl⟩ := sp_eq hF
      exact retL S hr hlocks hP hD hS dX6_marks_18
  have hl := lv_entry ([.ref (a 0), .int x1, .int x2]) (n := 4) (Nat.le_of_ble_eq_true rfl)
  rw [lg_entry_eq]
  generalize (lg_sl ([.ref (a 0), .int x1, .int x2]) ++ List.replicate (4 - (lg_sl ([.ref (a 0), .int x1, .int x2])).length) Slot.unset).toArray = ls at hl ⊢
  exact b_main _ _ _ hP hD hS hl

set_option maxRecDepth 100000 in
set_option maxHeartbeats 4000000 in
theorem m_X6_isWidth  {x0 : Int32} {u u' : Mem} {r : Int32}  (hF : F_X6_isWidth  u x0 = some (r, u')) : MC l D cc a tU adK adV yX6_isWidth cX6_isWidth 1 (some .boolean) 0 0 [.int x0] u (some (.int r)) u' := by
  refine MM.ofW (by decide) (fun p e s m below meth c S hr hlocks hK hEs hP hD hS => ?_)
  have S : CallFix p m c cX6_isWidth 1 s _ gtbl RX6 := S
  obtain ⟨hx, hb, hml, hown, hts⟩ := id S
  have b17 : ∀  (u : Mem) (y0 : Int32) , F_X6_isWidth_17  u y0 = some (r, u') → BW p l e s m below meth c 0 0 [.int x0] D (AC a) (some (.int r)) (wlC cc a u') 1 (wlC cc a u) 17 [] [.int y0] := by
    intro  u y0 hF H locs ls hP hD hS hl
    unfold F_X6_isWidth_17 at hF
    obtain ⟨hz1, hF⟩ := gz_some hF
    obtain ⟨rfl, rfl⟩ := sp_eq hF
    exact retZ S hr hlocks hP hD hS hz1 dX6_isWidth_17
  have b16 : ∀  (u : Mem)  , F_X6_isWidth_16  u  = some (r, u') → BW p l e s m below meth c 0 0 [.int x0] D (AC a) (some (.int r)) (wlC cc a u') 1 (wlC cc a u) 16 [] [] := by
    intro  u  hF H locs ls hP hD hS hl
    unfold F_X6_isWidth_16 at hF
    refine lv_iconst (v := 0) hx hb dX6_isWidth_16 (by decide) ?_
    exact b17 _ _  hF H locs ls hP hD hS (lv_sub hl [] rfl)
  unfold F_X6_isWidth at hF
  have b_main : BW p l e s m below meth c 0 0 [.int x0] D (AC a) (some (.int r)) (wlC cc a u') 1 (wlC cc a u) 0 [(0, .int x0)] [] := by
    intro H locs ls hP hD hS hl
    refine lv_iload_n hx hb dX6_isWidth_0 rfl (lv_at hl 0 rfl) ?_
    refine lv_iconst (v := 1) hx hb dX6_isWidth_1 (by decide) ?_
    refine lv_icmp_lt (tgt := 16) hx hb dX6_isWidth_2 (by decide) (fun c2 => ?_) (fun c2 => ?_)
    · have hF := ite_t hF c2
      exact b16 _  hF H locs ls hP hD hS (lv_sub hl [] rfl)
    · have hF := ite_f hF c2
      refine lv_iload_n hx hb dX6_isWidth_5 rfl (lv_at hl 0 rfl) ?_
      refine lv_sipush (v := 9999) hx hb dX6_isWidth_6 (by decide) ?_
      refine lv_icmp_gt (tgt := 16) hx hb dX6_isWidth_9 (by decide) (fun c3 => ?_) (fun c3 => ?_)
      · have hF := ite_t hF c3
        exact b16 _  hF H locs ls hP hD hS (lv_sub hl [] rfl)
      · have hF := ite_f hF c3
        refine lv_iconst (v := 1) hx hb dX6_isWidth_12 (by decide) ?_
        refine lv_goto (tgt := 17) hx hb dX6_isWidth_13 (by decide) ?_
        exact b17 _ _  hF H locs ls hP hD hS (lv_sub hl [] rfl)
  have hl := lv_entry ([.int x0]) (n := 1) (Nat.le_of_ble_eq_true rfl)
  rw [lg_entry_eq]
  generalize (lg_sl ([.int x0]) ++ List.replicate (1 - (lg_sl ([.int x0])).length) Slot.unset).toArray = ls at hl ⊢
  exact b_main _ _ _ hP hD hS hl

set_option maxRecDepth 100000 in
set_option maxHeartbeats 4000000 in
theorem m_X6_isYear  {x0 : Int32} {u u' : Mem} {r : Int32}  (hF : F_X6_isYear  u x0 = some (r, u')) : MC l D cc a tU adK adV yX6_isYear cX6_isYear 1 (some .boolean) 0 0 [.int x0] u (some (.int r)) u' := by
  refine MM.ofW (by decide) (fun p e s m below meth c S hr hlocks hK hEs hP hD hS => ?_)
  have S : CallFix p m c cX6_isYear 1 s _ gtbl RX6 := S
  obtain ⟨hx, hb, hml, hown, hts⟩ := id S
  have b16 : ∀  (u : Mem) (y0 : Int32) , F_X6_isYear_16  u y0 = some (r, u') → BW p l e s m below meth c 0 0 [.int x0] D (AC a) (some (.int r)) (wlC cc a u') 1 (wlC cc a u) 16 [] [.int y0] := by
    intro  u y0 hF H locs ls hP hD hS hl
    unfold F_X6_isYear_16 at hF
    obtain ⟨hz1, hF⟩ := gz_some hF
    obtain ⟨rfl, rfl⟩ := sp_eq hF
    exact retZ S hr hlocks hP hD hS hz1 dX6_isYear_16
  have b15 : ∀  (u : Mem)  , F_X6_isYear_15  u  = some (r, u') → BW p l e s m below meth c 0 0 [.int x0] D (AC a) (some (.int r)) (wlC cc a u') 1 (wlC cc a u) 15 [] [] := by
    intro  u  hF H locs ls hP hD hS hl
    unfold F_X6_isYear_15 at hF
    refine lv_iconst (v := 0) hx hb dX6_isYear_15 (by decide) ?_
    exact b16 _ _  hF H locs ls hP hD hS (lv_sub hl [] rfl)
  unfold F_X6_isYear at hF
  have b_main : BW p l e s m below meth c 0 0 [.int x0] D (AC a) (some (.int r)) (wlC cc a u') 1 (wlC cc a u) 0 [(0, .int x0)] [] := by
    intro H locs ls hP hD hS hl
    refine lv_iload_n hx hb dX6_isYear_0 rfl (lv_at hl 0 rfl) ?_
    refine lv_if_lt (tgt := 15) hx hb dX6_isYear_1 (by decide) (fun c2 => ?_) (fun c2 => ?_)
    · have hF := ite_t hF c2
      exact b15 _  hF H locs ls hP hD hS (lv_sub hl [] rfl)
    · have hF := ite_f hF c2
      refine lv_iload_n hx hb dX6_isYear_4 rfl (lv_at hl 0 rfl) ?_
      refine lv_sipush (v := 2000) hx hb dX6_isYear_5 (by decide) ?_
      refine lv_icmp_gt (tgt := 15) hx hb dX6_isYear_8 (by decide) (fun c3 => ?_) (fun c3 => ?_)
      · have hF := ite_t hF c3
        exact b15 _  hF H locs ls hP hD hS (lv_sub hl [] rfl)
      · have hF := ite_f hF c3
        refine lv_iconst (v := 1) hx hb dX6_isYear_11 (by decide) ?_
        refine lv_goto (tgt := 16) hx hb dX6_isYear_12 (by decide) ?_
        exact b16 _ _  hF H locs ls hP hD hS (lv_sub hl [] rfl)
  have hl := lv_entry ([.int x0]) (n := 1) (Nat.le_of_ble_eq_true rfl)
  rw [lg_entry_eq]
  generalize (lg_sl ([.int x0]) ++ List.replicate (1 - (lg_sl ([.int x0])).length) Slot.unset).toArray = ls at hl ⊢
  exact b_main _ _ _ hP hD hS hl

set_option maxRecDepth 100000 in
set_option maxHeartbeats 4000000 in
theorem m_X6_set  {x1 : Int32} {x2 : Int32} {x3 : Int32} {u u' : Mem} {r : Int32}  (hF : F_X6_set  u x1 x2 x3 = some (r, u')) : MC l D cc a tU adK adV yX6_set cX6_set 6 (some .int) 1 22 [.ref (a 0), .int x1, .int x2, .int x3] u (some (.int r)) u' := by
  refine MM.ofW (by decide) (fun p e s m below meth c S hr hlocks hK hEs hP hD hS => ?_)
  have S : CallFix p m c cX6_set 6 s _ gtbl RX6 := S
  obtain ⟨hx, hb, hml, hown, hts⟩ := id S
  have b85 : ∀  (u : Mem)  , F_X6_set_85  u  = some (r, u') → BW p l e s m below meth c 1 22 [.ref (a 0), .int x1, .int x2, .int x3] D (AC a) (some (.int r)) (wlC cc a u') 6 (wlC cc a u) 85 [(0, .ref (a 0))] [] := by
    intro  u  hF H locs ls hP hD hS hl
    unfold F_X6_set_85 at hF
    refine lv_aload_n hx hb dX6_set_85 rfl (lv_at hl 0 rfl) ?_
    refine lv_ldc hx hb hown (hts _ q291) dX6_set_86 ?_
    obtain ⟨r2, u1, e3, hF⟩ := bdI_some hF
    refine MM.callVi (m_X6_found e3) k_X6_64 S ecOK hEs hK ⟨by decide, by decide⟩ (va_recv hK hP rfl c_SP) rfl rfl hl.1 (Nat.le_of_ble_eq_true rfl) dX6_set_88 ⟨Nat.le_refl _, Nat.le_refl _⟩ hP hD hS (fun H locs hP hD hS => ?_)
    obtain ⟨rfl, rfl⟩ := sp_eq hF
    exact retI S hr hlocks hP hD hS dX6_set_91
  have b57 : ∀  (u : Mem) (v2 : Int32) (v3 : Int32) (v4 : Nat) (hv4 : 28 ≤ v4 ∧ v4 ≤ 63), F_X6_set_57  u v2 v3 v4 = some (r, u') → BW p l e s m below meth c 1 22 [.ref (a 0), .int x1, .int x2, .int x3] D (AC a) (some (.int r)) (wlC cc a u') 6 (wlC cc a u) 57 [(0, .ref (a 0)), (2, .int v2), (3, .int v3), (4, .ref (a v4))] [] := by
    intro  u v2 v3 v4 hv4 hF H locs ls hP hD hS hl
    unfold F_X6_set_57 at hF
    refine lv_iload_n hx hb dX6_set_57 rfl (lv_at hl 1 rfl) ?_
    refine lv_iconst (v := 2) hx hb dX6_set_58 (by decide) ?_
    refine lv_icmp_ne (tgt := 85) hx hb dX6_set_59 (by decide) (fun c4 => ?_) (fun c4 => ?_)
    · have hF := ite_f hF c4
      exact b85 _  hF H locs ls hP hD hS (lv_sub hl [0] rfl)
    · have hF := ite_t hF c4
      refine lv_iload_n hx hb dX6_set_62 rfl (lv_at hl 2 rfl) ?_
      obtain ⟨r6, u5, e7, hF⟩ := bdI_some hF
      refine MM.callSi (m_X6_isYear e7) k_X6_123 S ecOK hEs hK ⟨by decide, by decide⟩ rfl rfl hl.1 (Nat.le_of_ble_eq_true rfl) dX6_set_63 ⟨Nat.le_refl _, Nat.le_refl _⟩ hP hD hS (fun H locs hP hD hS => ?_)
      refine lv_if_eq (tgt := 85) hx hb dX6_set_66 (by decide) (fun c8 => ?_) (fun c8 => ?_)
      · have hF := ite_t hF c8
        exact b85 _  hF H locs ls hP hD hS (lv_sub hl [0] rfl)
      · have hF := ite_f hF c8
        refine lv_aload hx hb dX6_set_69 (lv_at hl 3 rfl) ?_
        refine va_get_w S hK hP _ (c_PR hv4) rfl igX1 2 (by decide) q110 rfl rfl dX6_set_71 ?_
        refine lv_istore (lv' := [(5, .int _), (0, .ref _), (2, .int _), (3, .int _), (4, .ref _)]) hx hb dX6_set_74 hl (by decide) rfl (fun ls hl => ?_)
        refine lv_aload hx hb dX6_set_76 (lv_at hl 4 rfl) ?_
        refine lv_iload_n hx hb dX6_set_78 rfl (lv_at hl 3 rfl) ?_
        refine va_put_w S igX1 tyX1 tyX1_ok nmX1 hK hP hD hS _ (c_PR hv4) rfl 2 (by decide) q110 rfl rfl (tyX1_ok 2 (by decide)) rfl rfl (Nat.le_of_ble_eq_true rfl) (z_PRi hv4 (by decide)) dX6_set_79 (fun H locs hP hD hS => ?_)
        refine lv_iload hx hb dX6_set_82 (lv_at hl 0 rfl) ?_
        obtain ⟨rfl, rfl⟩ := sp_eq hF
        exact retI S hr hlocks hP hD hS dX6_set_84
  unfold F_X6_set at hF
  have b_main : BW p l e s m below meth c 1 22 [.ref (a 0), .int x1, .int x2, .int x3] D (AC a) (some (.int r)) (wlC cc a u') 6 (wlC cc a u) 0 [(0, .ref (a 0)), (1, .int x1), (2, .int x2), (3, .int x3)] [] := by
    intro H locs ls hP hD hS hl
    refine lv_aload_n hx hb dX6_set_0 rfl (lv_at hl 0 rfl) ?_
    refine va_get_w S hK hP _ c_SP rfl igX6 0 (by decide) q259 rfl rfl dX6_set_1 ?_
    refine lv_iload_n hx hb dX6_set_4 rfl (lv_at hl 1 rfl) ?_
    obtain ⟨r10, u9, e11, hF⟩ := bdI_some hF
    refine MM.callVi (m_X0_has ⟨by decide, by decide⟩ e11) k_X6_77 S ecOK hEs hK ⟨by decide, by decide⟩ (va_recv hK hP rfl (c_AR ⟨by decide, by decide⟩)) rfl rfl hl.1 (Nat.le_of_ble_eq_true rfl) dX6_set_5 ⟨Nat.le_refl _, Nat.le_refl _⟩ hP hD hS (fun H locs hP hD hS => ?_)
    refine lv_if_ne (tgt := 18) hx hb dX6_set_8 (by decide) (fun c12 => ?_) (fun c12 => ?_)
    · have hF := ite_f hF c12
      refine lv_aload_n hx hb dX6_set_18 rfl (lv_at hl 0 rfl) ?_
      refine va_get_w S hK hP _ c_SP rfl igX6 0 (by decide) q259 rfl rfl dX6_set_19 ?_
      refine va_get_w S hK hP _ (c_AR ⟨by decide, by decide⟩) rfl igX0 0 (by decide) q135 rfl rfl dX6_set_22 ?_
      refine lv_iload_n hx hb dX6_set_25 rfl (lv_at hl 1 rfl) ?_
      obtain ⟨hin13, hF⟩ := gd_some hF
      have hp14 := r_PR (t := 1) ⟨by decide, by decide⟩ hin13
      refine cPald S hK hP ⟨by decide, by decide⟩ hin13 dX6_set_26 ?_
      refine lv_astore (lv' := [(4, .ref _), (0, .ref _), (1, .int _), (2, .int _), (3, .int _)]) hx hb dX6_set_27 hl (by decide) rfl (fun ls hl => ?_)
      refine lv_iload_n hx hb dX6_set_29 rfl (lv_at hl 3 rfl) ?_
      refine lv_iconst (v := 1) hx hb dX6_set_30 (by decide) ?_
      refine lv_icmp_ne (tgt := 57) hx hb dX6_set_31 (by decide) (fun c15 => ?_) (fun c15 => ?_)
      · have hF := ite_f hF c15
        exact b57 _ _ _ _ hp14 hF H locs ls hP hD hS (lv_sub hl [1, 3, 4, 0] rfl)
      · have hF := ite_t hF c15
        refine lv_iload_n hx hb dX6_set_34 rfl (lv_at hl 4 rfl) ?_
        obtain ⟨r17, u16, e18, hF⟩ := bdI_some hF
        refine MM.callSi (m_X6_isWidth e18) k_X6_120 S ecOK hEs hK ⟨by decide, by decide⟩ rfl rfl hl.1 (Nat.le_of_ble_eq_true rfl) dX6_set_35 ⟨Nat.le_refl _, Nat.le_refl _⟩ hP hD hS (fun H locs hP hD hS => ?_)
        refine lv_if_eq (tgt := 57) hx hb dX6_set_38 (by decide) (fun c19 => ?_) (fun c19 => ?_)
        · have hF := ite_t hF c19
          exact b57 _ _ _ _ hp14 hF H locs ls hP hD hS (lv_sub hl [1, 3, 4, 0] rfl)
        · have hF := ite_f hF c19
          refine lv_aload hx hb dX6_set_41 (lv_at hl 0 rfl) ?_
          refine va_get_w S hK hP _ (c_PR hp14) rfl igX1 1 (by decide) q106 rfl rfl dX6_set_43 ?_
          refine lv_istore (lv' := [(5, .int _), (4, .ref _), (0, .ref _), (1, .int _), (2, .int _), (3, .int _)]) hx hb dX6_set_46 hl (by decide) rfl (fun ls hl => ?_)
          refine lv_aload hx hb dX6_set_48 (lv_at hl 1 rfl) ?_
          refine lv_iload_n hx hb dX6_set_50 rfl (lv_at hl 5 rfl) ?_
          refine va_put_w S igX1 tyX1 tyX1_ok nmX1 hK hP hD hS _ (c_PR hp14) rfl 1 (by decide) q106 rfl rfl (tyX1_ok 1 (by decide)) rfl rfl (Nat.le_of_ble_eq_true rfl) (z_PRi hp14 (by decide)) dX6_set_51 (fun H locs hP hD hS => ?_)
          refine lv_iload hx hb dX6_set_54 (lv_at hl 0 rfl) ?_
          obtain ⟨rfl, rfl⟩ := sp_eq hF
          exact retI S hr hlocks hP hD hS dX6_set_56
    · have hF := ite_t hF c12
      refine lv_aload_n hx hb dX6_set_11 rfl (lv_at hl 0 rfl) ?_
      refine lv_ldc hx hb hown (hts _ q291) dX6_set_12 ?_
      obtain ⟨r21, u20, e22, hF⟩ := bdI_some hF
      refine MM.callVi (m_X6_found e22) k_X6_64 S ecOK hEs hK ⟨by decide, by decide⟩ (va_recv hK hP rfl c_SP) rfl rfl hl.1 (Nat.le_of_ble_eq_true rfl) dX6_set_14 ⟨Nat.le_refl _, Nat.le_refl _⟩ hP hD hS (fun H locs hP hD hS => ?_)
      obtain ⟨rfl, rfl⟩ := sp_eq hF
      exact retI S hr hlocks hP hD hS dX6_set_17
  have hl := lv_entry ([.ref (a 0), .int x1, .int x2, .int x3]) (n := 6) (Nat.le_of_ble_eq_true rfl)
  rw [lg_entry_eq]
  generalize (lg_sl ([.ref (a 0), .int x1, .int x2, .int x3]) ++ List.replicate (6 - (lg_sl ([.ref (a 0), .int x1, .int x2, .int x3])).length) Slot.unset).toArray = ls at hl ⊢
  exact b_main _ _ _ hP hD hS hl

set_option maxRecDepth 100000 in
set_option maxHeartbeats 4000000 in
theorem m_X6_isPlace  {x0 : Int32} {u u' : Mem} {r : Int32}  (hF : F_X6_isPlace  u x0 = some (r, u')) : MC l D cc a tU adK adV yX6_isPlace cX6_isPlace 1 (some .boolean) 0 0 [.int x0] u (some (.int r)) u' := by
  refine MM.ofW (by decide) (fun p e s m below meth c S hr hlocks hK hEs hP hD hS => ?_)
  have S : CallFix p m c cX6_isPlace 1 s _ gtbl RX6 := S
  obtain ⟨hx, hb, hml, hown, hts⟩ := id S
  have b15 : ∀  (u : Mem) (y0 : Int32) , F_X6_isPlace_15  u y0 = some (r, u') → BW p l e s m below meth c 0 0 [.int x0] D (AC a) (some (.int r)) (wlC cc a u') 1 (wlC cc a u) 15 [] [.int y0] := by
    intro  u y0 hF H locs ls hP hD hS hl
    unfold F_X6_isPlace_15 at hF
    obtain ⟨hz1, hF⟩ := gz_some hF
    obtain ⟨rfl, rfl⟩ := sp_eq hF
    exact retZ S hr hlocks hP hD hS hz1 dX6_isPlace_15
  have b14 : ∀  (u : Mem)  , F_X6_isPlace_14  u  = some (r, u') → BW p l e s m below meth c 0 0 [.int x0] D (AC a) (some (.int r)) (wlC cc a u') 1 (wlC cc a u) 14 [] [] := by
    intro  u  hF H locs ls hP hD hS hl
    unfold F_X6_isPlace_14 at hF
    refine lv_iconst (v := 0) hx hb dX6_isPlace_14 (by decide) ?_
    exact b15 _ _  hF H locs ls hP hD hS (lv_sub hl [] rfl)
  unfold F_X6_isPlace at hF
  have b_main : BW p l e s m below meth c 0 0 [.int x0] D (AC a) (some (.int r)) (wlC cc a u') 1 (wlC cc a u) 0 [(0, .int x0)] [] := by
    intro H locs ls hP hD hS hl
    refine lv_iload_n hx hb dX6_isPlace_0 rfl (lv_at hl 0 rfl) ?_
    refine lv_if_lt (tgt := 14) hx hb dX6_isPlace_1 (by decide) (fun c2 => ?_) (fun c2 => ?_)
    · have hF := ite_t hF c2
      exact b14 _  hF H locs ls hP hD hS (lv_sub hl [] rfl)
    · have hF := ite_f hF c2
      refine lv_iload_n hx hb dX6_isPlace_4 rfl (lv_at hl 0 rfl) ?_
      refine lv_bipush (v := 40) hx hb dX6_isPlace_5 (by decide) ?_
      refine lv_icmp_ge (tgt := 14) hx hb dX6_isPlace_7 (by decide) (fun c3 => ?_) (fun c3 => ?_)
      · have hF := ite_t hF c3
        exact b14 _  hF H locs ls hP hD hS (lv_sub hl [] rfl)
      · have hF := ite_f hF c3
        refine lv_iconst (v := 1) hx hb dX6_isPlace_10 (by decide) ?_
        refine lv_goto (tgt := 15) hx hb dX6_isPlace_11 (by decide) ?_
        exact b15 _ _  hF H locs ls hP hD hS (lv_sub hl [] rfl)
  have hl := lv_entry ([.int x0]) (n := 1) (Nat.le_of_ble_eq_true rfl)
  rw [lg_entry_eq]
  generalize (lg_sl ([.int x0]) ++ List.replicate (1 - (lg_sl ([.int x0])).length) Slot.unset).toArray = ls at hl ⊢
  exact b_main _ _ _ hP hD hS hl

set_option maxRecDepth 100000 in
set_option maxHeartbeats 4000000 in
theorem m_X6_scratch  {x1 : Int32} {x2 : Int32} {x3 : Int32} {u u' : Mem} {r : Int32}  (hF : F_X6_scratch  u x1 x2 x3 = some (r, u')) : MC l D cc a tU adK adV yX6_scratch cX6_scratch 9 (some .int) 1 22 [.ref (a 0), .int x1, .int x2, .int x3] u (some (.int r)) u' := by
  refine MM.ofW (by decide) (fun p e s m below meth c S hr hlocks hK hEs hP hD hS => ?_)
  have S : CallFix p m c cX6_scratch 9 s _ gtbl RX6 := S
  obtain ⟨hx, hb, hml, hown, hts⟩ := id S
  have b18 : ∀  (u : Mem)  , F_X6_scratch_18  u  = some (r, u') → BW p l e s m below meth c 1 22 [.ref (a 0), .int x1, .int x2, .int x3] D (AC a) (some (.int r)) (wlC cc a u') 9 (wlC cc a u) 18 [(0, .ref (a 0))] [] := by
    intro  u  hF H locs ls hP hD hS hl
    unfold F_X6_scratch_18 at hF
    refine lv_aload_n hx hb dX6_scratch_18 rfl (lv_at hl 0 rfl) ?_
    refine lv_ldc hx hb hown (hts _ q291) dX6_scratch_19 ?_
    obtain ⟨r2, u1, e3, hF⟩ := bdI_some hF
    refine MM.callVi (m_X6_found e3) k_X6_64 S ecOK hEs hK ⟨by decide, by decide⟩ (va_recv hK hP rfl c_SP) rfl rfl hl.1 (Nat.le_of_ble_eq_true rfl) dX6_scratch_21 ⟨Nat.le_refl _, Nat.le_refl _⟩ hP hD hS (fun H locs hP hD hS => ?_)
    obtain ⟨rfl, rfl⟩ := sp_eq hF
    exact retI S hr hlocks hP hD hS dX6_scratch_24
  have b90 : ∀  (u : Mem) (y0 : Int32) , F_X6_scratch_90  u y0 = some (r, u') → BW p l e s m below meth c 1 22 [.ref (a 0), .int x1, .int x2, .int x3] D (AC a) (some (.int r)) (wlC cc a u') 9 (wlC cc a u) 90 [] [.int y0] := by
    intro  u y0 hF H locs ls hP hD hS hl
    unfold F_X6_scratch_90 at hF
    obtain ⟨rfl, rfl⟩ := sp_eq hF
    exact retI S hr hlocks hP hD hS dX6_scratch_90
  have b71 : ∀  (u : Mem) (v4 : Nat) (v5 : Int64) (y0 : Nat) (y1 : Int64) (hv4 : 28 ≤ v4 ∧ v4 ≤ 63) (hy0 : 28 ≤ y0 ∧ y0 ≤ 63), F_X6_scratch_71  u v4 v5 y0 y1 = some (r, u') → BW p l e s m below meth c 1 22 [.ref (a 0), .int x1, .int x2, .int x3] D (AC a) (some (.int r)) (wlC cc a u') 9 (wlC cc a u) 71 [(4, .ref (a v4)), (5, .long v5)] [.long y1, .ref (a y0)] := by
    intro  u v4 v5 y0 y1 hv4 hy0 hF H locs ls hP hD hS hl
    unfold F_X6_scratch_71 at hF
    refine va_put_w S igX1 tyX1 tyX1_ok nmX1 hK hP hD hS _ (c_PR hy0) rfl 4 (by decide) q120 rfl rfl (tyX1_ok 4 (by decide)) rfl rfl (Nat.le_of_ble_eq_true rfl) (z_PRl hy0) dX6_scratch_71 (fun H locs hP hD hS => ?_)
    refine lv_aload hx hb dX6_scratch_74 (lv_at hl 0 rfl) ?_
    refine va_get_w S hK hP _ (c_PR hv4) rfl igX1 4 (by decide) q120 rfl rfl dX6_scratch_76 ?_
    refine lv_lload hx hb dX6_scratch_79 (lv_at hl 1 rfl) ?_
    refine W.lcmp hx hb dX6_scratch_81 ?_
    refine lv_if_eq (tgt := 89) hx hb dX6_scratch_82 (by decide) (fun c4 => ?_) (fun c4 => ?_)
    · have hF := ite_t hF c4
      refine lv_iconst (v := 0) hx hb dX6_scratch_89 (by decide) ?_
      exact b90 _ _  hF H locs ls hP hD hS (lv_sub hl [] rfl)
    · have hF := ite_f hF c4
      refine lv_iconst (v := 1) hx hb dX6_scratch_85 (by decide) ?_
      refine lv_goto (tgt := 90) hx hb dX6_scratch_86 (by decide) ?_
      exact b90 _ _  hF H locs ls hP hD hS (lv_sub hl [] rfl)
  unfold F_X6_scratch at hF
  have b_main : BW p l e s m below meth c 1 22 [.ref (a 0), .int x1, .int x2, .int x3] D (AC a) (some (.int r)) (wlC cc a u') 9 (wlC cc a u) 0 [(0, .ref (a 0)), (1, .int x1), (2, .int x2), (3, .int x3)] [] := by
    intro H locs ls hP hD hS hl
    refine lv_aload_n hx hb dX6_scratch_0 rfl (lv_at hl 0 rfl) ?_
    refine va_get_w S hK hP _ c_SP rfl igX6 0 (by decide) q259 rfl rfl dX6_scratch_1 ?_
    refine lv_iload_n hx hb dX6_scratch_4 rfl (lv_at hl 1 rfl) ?_
    obtain ⟨r6, u5, e7, hF⟩ := bdI_some hF
    refine MM.callVi (m_X0_has ⟨by decide, by decide⟩ e7) k_X6_77 S ecOK hEs hK ⟨by decide, by decide⟩ (va_recv hK hP rfl (c_AR ⟨by decide, by decide⟩)) rfl rfl hl.1 (Nat.le_of_ble_eq_true rfl) dX6_scratch_5 ⟨Nat.le_refl _, Nat.le_refl _⟩ hP hD hS (fun H locs hP hD hS => ?_)
    refine lv_if_eq (tgt := 18) hx hb dX6_scratch_8 (by decide) (fun c8 => ?_) (fun c8 => ?_)
    · have hF := ite_t hF c8
      exact b18 _  hF H locs ls hP hD hS (lv_sub hl [0] rfl)
    · have hF := ite_f hF c8
      refine lv_iload_n hx hb dX6_scratch_11 rfl (lv_at hl 2 rfl) ?_
      obtain ⟨r10, u9, e11, hF⟩ := bdI_some hF
      refine MM.callSi (m_X6_isPlace e11) k_X6_126 S ecOK hEs hK ⟨by decide, by decide⟩ rfl rfl hl.1 (Nat.le_of_ble_eq_true rfl) dX6_scratch_12 ⟨Nat.le_refl _, Nat.le_refl _⟩ hP hD hS (fun H locs hP hD hS => ?_)
      refine lv_if_ne (tgt := 25) hx hb dX6_scratch_15 (by decide) (fun c12 => ?_) (fun c12 => ?_)
      · have hF := ite_f hF c12
        refine lv_aload_n hx hb dX6_scratch_25 rfl (lv_at hl 0 rfl) ?_
        refine va_get_w S hK hP _ c_SP rfl igX6 0 (by decide) q259 rfl rfl dX6_scratch_26 ?_
        refine va_get_w S hK hP _ (c_AR ⟨by decide, by decide⟩) rfl igX0 0 (by decide) q135 rfl rfl dX6_scratch_29 ?_
        refine lv_iload_n hx hb dX6_scratch_32 rfl (lv_at hl 1 rfl) ?_
        obtain ⟨hin13, hF⟩ := gd_some hF
        have hp14 := r_PR (t := 1) ⟨by decide, by decide⟩ hin13
        refine cPald S hK hP ⟨by decide, by decide⟩ hin13 dX6_scratch_33 ?_
        refine lv_astore (lv' := [(4, .ref _), (0, .ref _), (1, .int _), (2, .int _), (3, .int _)]) hx hb dX6_scratch_34 hl (by decide) rfl (fun ls hl => ?_)
        refine lv_aload hx hb dX6_scratch_36 (lv_at hl 0 rfl) ?_
        refine va_get_w S hK hP _ (c_PR hp14) rfl igX1 4 (by decide) q120 rfl rfl dX6_scratch_38 ?_
        refine lv_lstore (lv' := [(5, .long _), (4, .ref _), (0, .ref _), (1, .int _), (2, .int _), (3, .int _)]) hx hb dX6_scratch_41 hl (by decide) rfl (fun ls hl => ?_)
        refine lv_lconst (v := 1) hx hb dX6_scratch_43 (by decide) ?_
        refine lv_iload_n hx hb dX6_scratch_44 rfl (lv_at hl 4 rfl) ?_
        refine lv_lshl hx hb dX6_scratch_45 rfl ?_
        refine lv_lstore (lv' := [(7, .long _), (5, .long _), (4, .ref _), (0, .ref _), (1, .int _), (2, .int _), (3, .int _)]) hx hb dX6_scratch_46 hl (by decide) rfl (fun ls hl => ?_)
        refine lv_aload hx hb dX6_scratch_48 (lv_at hl 2 rfl) ?_
        refine lv_iload_n hx hb dX6_scratch_50 rfl (lv_at hl 6 rfl) ?_
        refine lv_if_eq (tgt := 62) hx hb dX6_scratch_51 (by decide) (fun c15 => ?_) (fun c15 => ?_)
        · have hF := ite_t hF c15
          refine lv_lload hx hb dX6_scratch_62 (lv_at hl 1 rfl) ?_
          refine lv_lload hx hb dX6_scratch_64 (lv_at hl 0 rfl) ?_
          refine lv_ldc2 hx hb hown (hts _ q363) dX6_scratch_66 ?_
          refine lv_lxor hx hb dX6_scratch_69 ?_
          refine lv_land hx hb dX6_scratch_70 ?_
          exact b71 _ _ _ _ _ hp14 hp14 hF H locs ls hP hD hS (lv_sub hl [2, 1] rfl)
        · have hF := ite_f hF c15
          refine lv_lload hx hb dX6_scratch_54 (lv_at hl 1 rfl) ?_
          refine lv_lload hx hb dX6_scratch_56 (lv_at hl 0 rfl) ?_
          refine lv_lor hx hb dX6_scratch_58 ?_
          refine lv_goto (tgt := 71) hx hb dX6_scratch_59 (by decide) ?_
          exact b71 _ _ _ _ _ hp14 hp14 hF H locs ls hP hD hS (lv_sub hl [2, 1] rfl)
      · have hF := ite_t hF c12
        exact b18 _  hF H locs ls hP hD hS (lv_sub hl [0] rfl)
  have hl := lv_entry ([.ref (a 0), .int x1, .int x2, .int x3]) (n := 9) (Nat.le_of_ble_eq_true rfl)
  rw [lg_entry_eq]
  generalize (lg_sl ([.ref (a 0), .int x1, .int x2, .int x3]) ++ List.replicate (9 - (lg_sl ([.ref (a 0), .int x1, .int x2, .int x3])).length) Slot.unset).toArray = ls at hl ⊢
  exact b_main _ _ _ hP hD hS hl

set_option maxRecDepth 100000 in
set_option maxHeartbeats 4000000 in
theorem m_X6_look  {x1 : Int32} {u u' : Mem} {r : Int32}  (hF : F_X6_look  u x1 = some (r, u')) : MC l D cc a tU adK adV yX6_look cX6_look 4 (some .int) 1 22 [.ref (a 0), .int x1] u (some (.int r)) u' := by
  refine MM.ofW (by decide) (fun p e s m below meth c S hr hlocks hK hEs hP hD hS => ?_)
  have S : CallFix p m c cX6_look 4 s _ gtbl RX6 := S
  obtain ⟨hx, hb, hml, hown, hts⟩ := id S
  have b40 : ∀  (u : Mem) (v2 : Nat) (y0 : Int32) (hv2 : 28 ≤ v2 ∧ v2 ≤ 63), F_X6_look_40  u v2 y0 = some (r, u') → BW p l e s m below meth c 1 22 [.ref (a 0), .int x1] D (AC a) (some (.int r)) (wlC cc a u') 4 (wlC cc a u) 40 [(2, .ref (a v2))] [.int y0] := by
    intro  u v2 y0 hv2 hF H locs ls hP hD hS hl
    unfold F_X6_look_40 at hF
    refine lv_istore_n (lv' := [(3, .int _), (2, .ref _)]) hx hb dX6_look_40 rfl hl (by decide) rfl (fun ls hl => ?_)
    refine lv_aload_n hx hb dX6_look_41 rfl (lv_at hl 1 rfl) ?_
    refine lv_iconst (v := 1) hx hb dX6_look_42 (by decide) ?_
    refine va_put_w S igX1 tyX1 tyX1_ok nmX1 hK hP hD hS _ (c_PR hv2) rfl 3 (by decide) q115 rfl rfl (ty := .boolean) (tyX1_ok 3 (by decide)) (nz_ok (by decide)) (fz_ok (by decide)) (Nat.le_of_ble_eq_true rfl) (z_PRi hv2 (by decide)) dX6_look_43 (fun H locs hP hD hS => ?_)
    refine lv_iload_n hx hb dX6_look_46 rfl (lv_at hl 0 rfl) ?_
    obtain ⟨rfl, rfl⟩ := sp_eq hF
    exact retI S hr hlocks hP hD hS dX6_look_47
  unfold F_X6_look at hF
  have b_main : BW p l e s m below meth c 1 22 [.ref (a 0), .int x1] D (AC a) (some (.int r)) (wlC cc a u') 4 (wlC cc a u) 0 [(0, .ref (a 0)), (1, .int x1)] [] := by
    intro H locs ls hP hD hS hl
    refine lv_aload_n hx hb dX6_look_0 rfl (lv_at hl 0 rfl) ?_
    refine va_get_w S hK hP _ c_SP rfl igX6 0 (by decide) q259 rfl rfl dX6_look_1 ?_
    refine lv_iload_n hx hb dX6_look_4 rfl (lv_at hl 1 rfl) ?_
    obtain ⟨r2, u1, e3, hF⟩ := bdI_some hF
    refine MM.callVi (m_X0_has ⟨by decide, by decide⟩ e3) k_X6_77 S ecOK hEs hK ⟨by decide, by decide⟩ (va_recv hK hP rfl (c_AR ⟨by decide, by decide⟩)) rfl rfl hl.1 (Nat.le_of_ble_eq_true rfl) dX6_look_5 ⟨Nat.le_refl _, Nat.le_refl _⟩ hP hD hS (fun H locs hP hD hS => ?_)
    refine lv_if_ne (tgt := 18) hx hb dX6_look_8 (by decide) (fun c4 => ?_) (fun c4 => ?_)
    · have hF := ite_f hF c4
      refine lv_aload_n hx hb dX6_look_18 rfl (lv_at hl 0 rfl) ?_
      refine va_get_w S hK hP _ c_SP rfl igX6 0 (by decide) q259 rfl rfl dX6_look_19 ?_
      refine va_get_w S hK hP _ (c_AR ⟨by decide, by decide⟩) rfl igX0 0 (by decide) q135 rfl rfl dX6_look_22 ?_
      refine lv_iload_n hx hb dX6_look_25 rfl (lv_at hl 1 rfl) ?_
      obtain ⟨hin5, hF⟩ := gd_some hF
      have hp6 := r_PR (t := 1) ⟨by decide, by decide⟩ hin5
      refine cPald S hK hP ⟨by decide, by decide⟩ hin5 dX6_look_26 ?_
      refine lv_astore_n (lv' := [(2, .ref _), (0, .ref _), (1, .int _)]) hx hb dX6_look_27 rfl hl (by decide) rfl (fun ls hl => ?_)
      refine lv_aload_n hx hb dX6_look_28 rfl (lv_at hl 0 rfl) ?_
      refine va_get_w S hK hP _ (c_PR hp6) rfl igX1 3 (by decide) q115 rfl rfl dX6_look_29 ?_
      refine lv_if_eq (tgt := 39) hx hb dX6_look_32 (by decide) (fun c7 => ?_) (fun c7 => ?_)
      · have hF := ite_t hF c7
        refine lv_iconst (v := 1) hx hb dX6_look_39 (by decide) ?_
        exact b40 _ _ _ hp6 hF H locs ls hP hD hS (lv_sub hl [0] rfl)
      · have hF := ite_f hF c7
        refine lv_iconst (v := 0) hx hb dX6_look_35 (by decide) ?_
        refine lv_goto (tgt := 40) hx hb dX6_look_36 (by decide) ?_
        exact b40 _ _ _ hp6 hF H locs ls hP hD hS (lv_sub hl [0] rfl)
    · have hF := ite_t hF c4
      refine lv_aload_n hx hb dX6_look_11 rfl (lv_at hl 0 rfl) ?_
      refine lv_ldc hx hb hown (hts _ q291) dX6_look_12 ?_
      obtain ⟨r9, u8, e10, hF⟩ := bdI_some hF
      refine MM.callVi (m_X6_found e10) k_X6_64 S ecOK hEs hK ⟨by decide, by decide⟩ (va_recv hK hP rfl c_SP) rfl rfl hl.1 (Nat.le_of_ble_eq_true rfl) dX6_look_14 ⟨Nat.le_refl _, Nat.le_refl _⟩ hP hD hS (fun H locs hP hD hS => ?_)
      obtain ⟨rfl, rfl⟩ := sp_eq hF
      exact retI S hr hlocks hP hD hS dX6_look_17
  have hl := lv_entry ([.ref (a 0), .int x1]) (n := 4) (Nat.le_of_ble_eq_true rfl)
  rw [lg_entry_eq]
  generalize (lg_sl ([.ref (a 0), .int x1]) ++ List.replicate (4 - (lg_sl ([.ref (a 0), .int x1])).length) Slot.unset).toArray = ls at hl ⊢
  exact b_main _ _ _ hP hD hS hl

set_option maxRecDepth 100000 in
set_option maxHeartbeats 4000000 in
theorem m_X6_turn  {x1 : Int32} {x2 : Int32} {u u' : Mem} {r : Int32}  (hF : F_X6_turn  u x1 x2 = some (r, u')) : MC l D cc a tU adK adV yX6_turn cX6_turn 5 (some .int) 1 22 [.ref (a 0), .int x1, .int x2] u (some (.int r)) u' := by
  refine MM.ofW (by decide) (fun p e s m below meth c S hr hlocks hK hEs hP hD hS => ?_)
  have S : CallFix p m c cX6_turn 5 s _ gtbl RX6 := S
  obtain ⟨hx, hb, hml, hown, hts⟩ := id S
  have b18 : ∀  (u : Mem)  , F_X6_turn_18  u  = some (r, u') → BW p l e s m below meth c 1 22 [.ref (a 0), .int x1, .int x2] D (AC a) (some (.int r)) (wlC cc a u') 5 (wlC cc a u) 18 [(0, .ref (a 0))] [] := by
    intro  u  hF H locs ls hP hD hS hl
    unfold F_X6_turn_18 at hF
    refine lv_aload_n hx hb dX6_turn_18 rfl (lv_at hl 0 rfl) ?_
    refine lv_ldc hx hb hown (hts _ q291) dX6_turn_19 ?_
    obtain ⟨r2, u1, e3, hF⟩ := bdI_some hF
    refine MM.callVi (m_X6_found e3) k_X6_64 S ecOK hEs hK ⟨by decide, by decide⟩ (va_recv hK hP rfl c_SP) rfl rfl hl.1 (Nat.le_of_ble_eq_true rfl) dX6_turn_21 ⟨Nat.le_refl _, Nat.le_refl _⟩ hP hD hS (fun H locs hP hD hS => ?_)
    obtain ⟨rfl, rfl⟩ := sp_eq hF
    exact retI S hr hlocks hP hD hS dX6_turn_24
  unfold F_X6_turn at hF
  have b_main : BW p l e s m below meth c 1 22 [.ref (a 0), .int x1, .int x2] D (AC a) (some (.int r)) (wlC cc a u') 5 (wlC cc a u) 0 [(0, .ref (a 0)), (1, .int x1), (2, .int x2)] [] := by
    intro H locs ls hP hD hS hl
    refine lv_aload_n hx hb dX6_turn_0 rfl (lv_at hl 0 rfl) ?_
    refine va_get_w S hK hP _ c_SP rfl igX6 0 (by decide) q259 rfl rfl dX6_turn_1 ?_
    refine lv_iload_n hx hb dX6_turn_4 rfl (lv_at hl 1 rfl) ?_
    obtain ⟨r5, u4, e6, hF⟩ := bdI_some hF
    refine MM.callVi (m_X0_has ⟨by decide, by decide⟩ e6) k_X6_77 S ecOK hEs hK ⟨by decide, by decide⟩ (va_recv hK hP rfl (c_AR ⟨by decide, by decide⟩)) rfl rfl hl.1 (Nat.le_of_ble_eq_true rfl) dX6_turn_5 ⟨Nat.le_refl _, Nat.le_refl _⟩ hP hD hS (fun H locs hP hD hS => ?_)
    refine lv_if_eq (tgt := 18) hx hb dX6_turn_8 (by decide) (fun c7 => ?_) (fun c7 => ?_)
    · have hF := ite_t hF c7
      exact b18 _  hF H locs ls hP hD hS (lv_sub hl [0] rfl)
    · have hF := ite_f hF c7
      refine lv_iload_n hx hb dX6_turn_11 rfl (lv_at hl 2 rfl) ?_
      obtain ⟨r9, u8, e10, hF⟩ := bdI_some hF
      refine MM.callSi (m_X6_isKind e10) k_X6_59 S ecOK hEs hK ⟨by decide, by decide⟩ rfl rfl hl.1 (Nat.le_of_ble_eq_true rfl) dX6_turn_12 ⟨Nat.le_refl _, Nat.le_refl _⟩ hP hD hS (fun H locs hP hD hS => ?_)
      refine lv_if_ne (tgt := 25) hx hb dX6_turn_15 (by decide) (fun c11 => ?_) (fun c11 => ?_)
      · have hF := ite_f hF c11
        refine lv_aload_n hx hb dX6_turn_25 rfl (lv_at hl 0 rfl) ?_
        refine va_get_w S hK hP _ c_SP rfl igX6 0 (by decide) q259 rfl rfl dX6_turn_26 ?_
        refine va_get_w S hK hP _ (c_AR ⟨by decide, by decide⟩) rfl igX0 0 (by decide) q135 rfl rfl dX6_turn_29 ?_
        refine lv_iload_n hx hb dX6_turn_32 rfl (lv_at hl 1 rfl) ?_
        obtain ⟨hin12, hF⟩ := gd_some hF
        have hp13 := r_PR (t := 1) ⟨by decide, by decide⟩ hin12
        refine cPald S hK hP ⟨by decide, by decide⟩ hin12 dX6_turn_33 ?_
        refine lv_astore_n (lv' := [(3, .ref _), (0, .ref _), (1, .int _), (2, .int _)]) hx hb dX6_turn_34 rfl hl (by decide) rfl (fun ls hl => ?_)
        refine lv_aload_n hx hb dX6_turn_35 rfl (lv_at hl 0 rfl) ?_
        refine va_get_w S hK hP _ (c_PR hp13) rfl igX1 0 (by decide) q102 rfl rfl dX6_turn_36 ?_
        refine lv_istore (lv' := [(4, .int _), (3, .ref _), (0, .ref _), (1, .int _), (2, .int _)]) hx hb dX6_turn_39 hl (by decide) rfl (fun ls hl => ?_)
        refine lv_aload_n hx hb dX6_turn_41 rfl (lv_at hl 1 rfl) ?_
        refine lv_iload_n hx hb dX6_turn_42 rfl (lv_at hl 4 rfl) ?_
        refine va_put_w S igX1 tyX1 tyX1_ok nmX1 hK hP hD hS _ (c_PR hp13) rfl 0 (by decide) q102 rfl rfl (tyX1_ok 0 (by decide)) rfl rfl (Nat.le_of_ble_eq_true rfl) (z_PRi hp13 (by decide)) dX6_turn_43 (fun H locs hP hD hS => ?_)
        refine lv_iload hx hb dX6_turn_46 (lv_at hl 0 rfl) ?_
        obtain ⟨rfl, rfl⟩ := sp_eq hF
        exact retI S hr hlocks hP hD hS dX6_turn_48
      · have hF := ite_t hF c11
        exact b18 _  hF H locs ls hP hD hS (lv_sub hl [0] rfl)
  have hl := lv_entry ([.ref (a 0), .int x1, .int x2]) (n := 5) (Nat.le_of_ble_eq_true rfl)
  rw [lg_entry_eq]
  generalize (lg_sl ([.ref (a 0), .int x1, .int x2]) ++ List.replicate (5 - (lg_sl ([.ref (a 0), .int x1, .int x2])).length) Slot.unset).toArray = ls at hl ⊢
  exact b_main _ _ _ hP hD hS hl

set_option maxRecDepth 100000 in
set_option maxHeartbeats 4000000 in
theorem m_X6_isUnder  {x0 : Int32} {x1 : Int32} {u u' : Mem} {r : Int32}  (hF : F_X6_isUnder  u x0 x1 = some (r, u')) : MC l D cc a tU adK adV yX6_isUnder cX6_isUnder 4 (some .boolean) 1 20 [.int x0, .int x1] u (some (.int r)) u' := by
  refine MM.ofW (by decide) (fun p e s m below meth c S hr hlocks hK hEs hP hD hS => ?_)
  have S : CallFix p m c cX6_isUnder 4 s _ gtbl RX6 := S
  obtain ⟨hx, hb, hml, hown, hts⟩ := id S
  have b36 : ∀  (u : Mem)  , F_X6_isUnder_36  u  = some (r, u') → BW p l e s m below meth c 1 20 [.int x0, .int x1] D (AC a) (some (.int r)) (wlC cc a u') 4 (wlC cc a u) 36 [] [] := by
    intro  u  hF H locs ls hP hD hS hl
    unfold F_X6_isUnder_36 at hF
    refine lv_iconst (v := 0) hx hb dX6_isUnder_36 (by decide) ?_
    obtain ⟨rfl, rfl⟩ := sp_eq hF
    exact retZ S hr hlocks hP hD hS (by decide) dX6_isUnder_37
  have b4 : ∀ (n : Nat) (u : Mem) (v1 : Int32) (v2 : Int32) (v3 : Int32) , F_X6_isUnder_4  n u v1 v2 v3 = some (r, u') → BW p l e s m below meth c 1 20 [.int x0, .int x1] D (AC a) (some (.int r)) (wlC cc a u') 4 (wlC cc a u) 4 [(1, .int v1), (2, .int v2), (3, .int v3)] [] := by
    intro n
    induction n with
    | zero => intro u v1 v2 v3 hF; cases hF
    | succ n ih =>
      intro u v1 v2 v3 hF H locs ls hP hD hS hl
      unfold F_X6_isUnder_4 at hF
      refine lv_iload_n hx hb dX6_isUnder_4 rfl (lv_at hl 2 rfl) ?_
      refine lv_bipush (v := 6) hx hb dX6_isUnder_5 (by decide) ?_
      refine lv_icmp_ge (tgt := 36) hx hb dX6_isUnder_7 (by decide) (fun c1 => ?_) (fun c1 => ?_)
      · have hF := ite_t hF c1
        exact b36 _  hF H locs ls hP hD hS (lv_sub hl [] rfl)
      · have hF := ite_f hF c1
        refine lv_iload_n hx hb dX6_isUnder_10 rfl (lv_at hl 1 rfl) ?_
        obtain ⟨r3, u2, e4, hF⟩ := bdI_some hF
        refine MM.callSi (m_X6_isKind e4) k_X6_59 S ecOK hEs hK ⟨by decide, by decide⟩ rfl rfl hl.1 (Nat.le_of_ble_eq_true rfl) dX6_isUnder_11 ⟨Nat.le_refl _, Nat.le_refl _⟩ hP hD hS (fun H locs hP hD hS => ?_)
        refine lv_if_eq (tgt := 36) hx hb dX6_isUnder_14 (by decide) (fun c5 => ?_) (fun c5 => ?_)
        · have hF := ite_t hF c5
          exact b36 _  hF H locs ls hP hD hS (lv_sub hl [] rfl)
        · have hF := ite_f hF c5
          refine lv_iload_n hx hb dX6_isUnder_17 rfl (lv_at hl 1 rfl) ?_
          refine lv_iload_n hx hb dX6_isUnder_18 rfl (lv_at hl 0 rfl) ?_
          refine lv_icmp_ne (tgt := 24) hx hb dX6_isUnder_19 (by decide) (fun c6 => ?_) (fun c6 => ?_)
          · have hF := ite_f hF c6
            refine va_gets hx hb hEs.1 hS hown (hts _ q379) (fun _ h9 => h9) dX6_isUnder_24 ?_
            refine lv_iload_n hx hb dX6_isUnder_27 rfl (lv_at hl 1 rfl) ?_
            obtain ⟨hin7, hF⟩ := gd_some hF
            refine va_ti hx hb hEs.2.1 hS hin7 rfl dX6_isUnder_28 ?_
            refine lv_istore_n (lv' := [(2, .int _), (1, .int _), (3, .int _)]) hx hb dX6_isUnder_29 rfl hl (by decide) rfl (fun ls hl => ?_)
            refine lv_inc1 (k := 2) (lv' := [(3, .int _), (2, .int _), (1, .int _)]) hx hb dX6_isUnder_30 hl rfl (by decide) rfl (fun ls hl => ?_)
            refine lv_goto (tgt := 4) hx hb dX6_isUnder_33 (by decide) ?_
            exact ih _ _ _ _  hF H locs ls hP hD hS (lv_sub hl [2, 1, 0] rfl)
          · have hF := ite_t hF c6
            refine lv_iconst (v := 1) hx hb dX6_isUnder_22 (by decide) ?_
            obtain ⟨rfl, rfl⟩ := sp_eq hF
            exact retZ S hr hlocks hP hD hS (by decide) dX6_isUnder_23
  unfold F_X6_isUnder at hF
  have b_main : BW p l e s m below meth c 1 20 [.int x0, .int x1] D (AC a) (some (.int r)) (wlC cc a u') 4 (wlC cc a u) 0 [(0, .int x0), (1, .int x1)] [] := by
    intro H locs ls hP hD hS hl
    refine lv_iload_n hx hb dX6_isUnder_0 rfl (lv_at hl 0 rfl) ?_
    refine lv_istore_n (lv' := [(2, .int _), (0, .int _), (1, .int _)]) hx hb dX6_isUnder_1 rfl hl (by decide) rfl (fun ls hl => ?_)
    refine lv_iconst (v := 0) hx hb dX6_isUnder_2 (by decide) ?_
    refine lv_istore_n (lv' := [(3, .int _), (2, .int _), (0, .int _), (1, .int _)]) hx hb dX6_isUnder_3 rfl hl (by decide) rfl (fun ls hl => ?_)
    exact b4 _ _ _ _ _  hF H locs ls hP hD hS (lv_sub hl [3, 1, 0] rfl)
  have hl := lv_entry ([.int x0, .int x1]) (n := 4) (Nat.le_of_ble_eq_true rfl)
  rw [lg_entry_eq]
  generalize (lg_sl ([.int x0, .int x1]) ++ List.replicate (4 - (lg_sl ([.int x0, .int x1])).length) Slot.unset).toArray = ls at hl ⊢
  exact b_main _ _ _ hP hD hS hl

set_option maxRecDepth 100000 in
set_option maxHeartbeats 4000000 in
theorem m_X6_as  {x1 : Int32} {x2 : Int32} {u u' : Mem} {r : Int32}  (hF : F_X6_as  u x1 x2 = some (r, u')) : MC l D cc a tU adK adV yX6_as cX6_as 4 (some .int) 2 43 [.ref (a 0), .int x1, .int x2] u (some (.int r)) u' := by
  refine MM.ofW (by decide) (fun p e s m below meth c S hr hlocks hK hEs hP hD hS => ?_)
  have S : CallFix p m c cX6_as 4 s _ gtbl RX6 := S
  obtain ⟨hx, hb, hml, hown, hts⟩ := id S
  have b18 : ∀  (u : Mem)  , F_X6_as_18  u  = some (r, u') → BW p l e s m below meth c 2 43 [.ref (a 0), .int x1, .int x2] D (AC a) (some (.int r)) (wlC cc a u') 4 (wlC cc a u) 18 [(0, .ref (a 0))] [] := by
    intro  u  hF H locs ls hP hD hS hl
    unfold F_X6_as_18 at hF
    refine lv_aload_n hx hb dX6_as_18 rfl (lv_at hl 0 rfl) ?_
    refine lv_ldc hx hb hown (hts _ q291) dX6_as_19 ?_
    obtain ⟨r2, u1, e3, hF⟩ := bdI_some hF
    refine MM.callVi (m_X6_found e3) k_X6_64 S ecOK hEs hK ⟨by decide, by decide⟩ (va_recv hK hP rfl c_SP) rfl rfl hl.1 (Nat.le_of_ble_eq_true rfl) dX6_as_21 ⟨Nat.le_refl _, Nat.le_refl _⟩ hP hD hS (fun H locs hP hD hS => ?_)
    obtain ⟨rfl, rfl⟩ := sp_eq hF
    exact retI S hr hlocks hP hD hS dX6_as_24
  have b59 : ∀  (u : Mem) (y0 : Int32) , F_X6_as_59  u y0 = some (r, u') → BW p l e s m below meth c 2 43 [.ref (a 0), .int x1, .int x2] D (AC a) (some (.int r)) (wlC cc a u') 4 (wlC cc a u) 59 [] [.int y0] := by
    intro  u y0 hF H locs ls hP hD hS hl
    unfold F_X6_as_59 at hF
    obtain ⟨rfl, rfl⟩ := sp_eq hF
    exact retI S hr hlocks hP hD hS dX6_as_59
  unfold F_X6_as at hF
  have b_main : BW p l e s m below meth c 2 43 [.ref (a 0), .int x1, .int x2] D (AC a) (some (.int r)) (wlC cc a u') 4 (wlC cc a u) 0 [(0, .ref (a 0)), (1, .int x1), (2, .int x2)] [] := by
    intro H locs ls hP hD hS hl
    refine lv_aload_n hx hb dX6_as_0 rfl (lv_at hl 0 rfl) ?_
    refine va_get_w S hK hP _ c_SP rfl igX6 0 (by decide) q259 rfl rfl dX6_as_1 ?_
    refine lv_iload_n hx hb dX6_as_4 rfl (lv_at hl 1 rfl) ?_
    obtain ⟨r5, u4, e6, hF⟩ := bdI_some hF
    refine MM.callVi (m_X0_has ⟨by decide, by decide⟩ e6) k_X6_77 S ecOK hEs hK ⟨by decide, by decide⟩ (va_recv hK hP rfl (c_AR ⟨by decide, by decide⟩)) rfl rfl hl.1 (Nat.le_of_ble_eq_true rfl) dX6_as_5 ⟨Nat.le_refl _, Nat.le_refl _⟩ hP hD hS (fun H locs hP hD hS => ?_)
    refine lv_if_eq (tgt := 18) hx hb dX6_as_8 (by decide) (fun c7 => ?_) (fun c7 => ?_)
    · have hF := ite_t hF c7
      exact b18 _  hF H locs ls hP hD hS (lv_sub hl [0] rfl)
    · have hF := ite_f hF c7
      refine lv_iload_n hx hb dX6_as_11 rfl (lv_at hl 2 rfl) ?_
      obtain ⟨r9, u8, e10, hF⟩ := bdI_some hF
      refine MM.callSi (m_X6_isKind e10) k_X6_59 S ecOK hEs hK ⟨by decide, by decide⟩ rfl rfl hl.1 (Nat.le_of_ble_eq_true rfl) dX6_as_12 ⟨Nat.le_refl _, Nat.le_refl _⟩ hP hD hS (fun H locs hP hD hS => ?_)
      refine lv_if_ne (tgt := 25) hx hb dX6_as_15 (by decide) (fun c11 => ?_) (fun c11 => ?_)
      · have hF := ite_f hF c11
        refine lv_aload_n hx hb dX6_as_25 rfl (lv_at hl 0 rfl) ?_
        refine va_get_w S hK hP _ c_SP rfl igX6 0 (by decide) q259 rfl rfl dX6_as_26 ?_
        refine va_get_w S hK hP _ (c_AR ⟨by decide, by decide⟩) rfl igX0 0 (by decide) q135 rfl rfl dX6_as_29 ?_
        refine lv_iload_n hx hb dX6_as_32 rfl (lv_at hl 1 rfl) ?_
        obtain ⟨hin12, hF⟩ := gd_some hF
        have hp13 := r_PR (t := 1) ⟨by decide, by decide⟩ hin12
        refine cPald S hK hP ⟨by decide, by decide⟩ hin12 dX6_as_33 ?_
        refine lv_astore_n (lv' := [(3, .ref _), (0, .ref _), (1, .int _), (2, .int _)]) hx hb dX6_as_34 rfl hl (by decide) rfl (fun ls hl => ?_)
        refine lv_aload_n hx hb dX6_as_35 rfl (lv_at hl 0 rfl) ?_
        refine va_get_w S hK hP _ (c_PR hp13) rfl igX1 0 (by decide) q102 rfl rfl dX6_as_36 ?_
        refine lv_iload_n hx hb dX6_as_39 rfl (lv_at hl 3 rfl) ?_
        obtain ⟨r15, u14, e16, hF⟩ := bdI_some hF
        refine MM.callSi (m_X6_isUnder e16) k_X6_131 S ecOK hEs hK ⟨by decide, by decide⟩ rfl rfl hl.1 (Nat.le_of_ble_eq_true rfl) dX6_as_40 ⟨Nat.le_refl _, Nat.le_refl _⟩ hP hD hS (fun H locs hP hD hS => ?_)
        refine lv_if_eq (tgt := 53) hx hb dX6_as_43 (by decide) (fun c17 => ?_) (fun c17 => ?_)
        · have hF := ite_t hF c17
          refine lv_aload_n hx hb dX6_as_53 rfl (lv_at hl 1 rfl) ?_
          refine lv_ldc hx hb hown (hts _ q381) dX6_as_54 ?_
          obtain ⟨r19, u18, e20, hF⟩ := bdI_some hF
          refine MM.callVi (m_X6_found e20) k_X6_64 S ecOK hEs hK ⟨by decide, by decide⟩ (va_recv hK hP rfl c_SP) rfl rfl hl.1 (Nat.le_of_ble_eq_true rfl) dX6_as_56 ⟨Nat.le_refl _, Nat.le_refl _⟩ hP hD hS (fun H locs hP hD hS => ?_)
          exact b59 _ _  hF H locs ls hP hD hS (lv_sub hl [] rfl)
        · have hF := ite_f hF c17
          refine lv_aload_n hx hb dX6_as_46 rfl (lv_at hl 0 rfl) ?_
          refine va_get_w S hK hP _ (c_PR hp13) rfl igX1 2 (by decide) q110 rfl rfl dX6_as_47 ?_
          refine lv_goto (tgt := 59) hx hb dX6_as_50 (by decide) ?_
          exact b59 _ _  hF H locs ls hP hD hS (lv_sub hl [] rfl)
      · have hF := ite_t hF c11
        exact b18 _  hF H locs ls hP hD hS (lv_sub hl [0] rfl)
  have hl := lv_entry ([.ref (a 0), .int x1, .int x2]) (n := 4) (Nat.le_of_ble_eq_true rfl)
  rw [lg_entry_eq]
  generalize (lg_sl ([.ref (a 0), .int x1, .int x2]) ++ List.replicate (4 - (lg_sl ([.ref (a 0), .int x1, .int x2])).length) Slot.unset).toArray = ls at hl ⊢
  exact b_main _ _ _ hP hD hS hl

set_option maxRecDepth 100000 in
set_option maxHeartbeats 4000000 in
theorem m_X6_isSlack  {x0 : Int32} {u u' : Mem} {r : Int32}  (hF : F_X6_isSlack  u x0 = some (r, u')) : MC l D cc a tU adK adV yX6_isSlack cX6_isSlack 1 (some .boolean) 0 0 [.int x0] u (some (.int r)) u' := by
  refine MM.ofW (by decide) (fun p e s m below meth c S hr hlocks hK hEs hP hD hS => ?_)
  have S : CallFix p m c cX6_isSlack 1 s _ gtbl RX6 := S
  obtain ⟨hx, hb, hml, hown, hts⟩ := id S
  have b16 : ∀  (u : Mem) (y0 : Int32) , F_X6_isSlack_16  u y0 = some (r, u') → BW p l e s m below meth c 0 0 [.int x0] D (AC a) (some (.int r)) (wlC cc a u') 1 (wlC cc a u) 16 [] [.int y0] := by
    intro  u y0 hF H locs ls hP hD hS hl
    unfold F_X6_isSlack_16 at hF
    obtain ⟨hz1, hF⟩ := gz_some hF
    obtain ⟨rfl, rfl⟩ := sp_eq hF
    exact retZ S hr hlocks hP hD hS hz1 dX6_isSlack_16
  have b15 : ∀  (u : Mem)  , F_X6_isSlack_15  u  = some (r, u') → BW p l e s m below meth c 0 0 [.int x0] D (AC a) (some (.int r)) (wlC cc a u') 1 (wlC cc a u) 15 [] [] := by
    intro  u  hF H locs ls hP hD hS hl
    unfold F_X6_isSlack_15 at hF
    refine lv_iconst (v := 0) hx hb dX6_isSlack_15 (by decide) ?_
    exact b16 _ _  hF H locs ls hP hD hS (lv_sub hl [] rfl)
  unfold F_X6_isSlack at hF
  have b_main : BW p l e s m below meth c 0 0 [.int x0] D (AC a) (some (.int r)) (wlC cc a u') 1 (wlC cc a u) 0 [(0, .int x0)] [] := by
    intro H locs ls hP hD hS hl
    refine lv_iload_n hx hb dX6_isSlack_0 rfl (lv_at hl 0 rfl) ?_
    refine lv_if_lt (tgt := 15) hx hb dX6_isSlack_1 (by decide) (fun c2 => ?_) (fun c2 => ?_)
    · have hF := ite_t hF c2
      exact b15 _  hF H locs ls hP hD hS (lv_sub hl [] rfl)
    · have hF := ite_f hF c2
      refine lv_iload_n hx hb dX6_isSlack_4 rfl (lv_at hl 0 rfl) ?_
      refine lv_sipush (v := 999) hx hb dX6_isSlack_5 (by decide) ?_
      refine lv_icmp_gt (tgt := 15) hx hb dX6_isSlack_8 (by decide) (fun c3 => ?_) (fun c3 => ?_)
      · have hF := ite_t hF c3
        exact b15 _  hF H locs ls hP hD hS (lv_sub hl [] rfl)
      · have hF := ite_f hF c3
        refine lv_iconst (v := 1) hx hb dX6_isSlack_11 (by decide) ?_
        refine lv_goto (tgt := 16) hx hb dX6_isSlack_12 (by decide) ?_
        exact b16 _ _  hF H locs ls hP hD hS (lv_sub hl [] rfl)
  have hl := lv_entry ([.int x0]) (n := 1) (Nat.le_of_ble_eq_true rfl)
  rw [lg_entry_eq]
  generalize (lg_sl ([.int x0]) ++ List.replicate (1 - (lg_sl ([.int x0])).length) Slot.unset).toArray = ls at hl ⊢
  exact b_main _ _ _ hP hD hS hl

set_option maxRecDepth 100000 in
set_option maxHeartbeats 4000000 in
theorem m_X6_slack  {x1 : Int32} {u u' : Mem} {r : Int32}  (hF : F_X6_slack  u x1 = some (r, u')) : MC l D cc a tU adK adV yX6_slack cX6_slack 3 (some .int) 1 22 [.ref (a 0), .int x1] u (some (.int r)) u' := by
  refine MM.ofW (by decide) (fun p e s m below meth c S hr hlocks hK hEs hP hD hS => ?_)
  have S : CallFix p m c cX6_slack 3 s _ gtbl RX6 := S
  obtain ⟨hx, hb, hml, hown, hts⟩ := id S
  unfold F_X6_slack at hF
  have b_main : BW p l e s m below meth c 1 22 [.ref (a 0), .int x1] D (AC a) (some (.int r)) (wlC cc a u') 3 (wlC cc a u) 0 [(0, .ref (a 0)), (1, .int x1)] [] := by
    intro H locs ls hP hD hS hl
    refine lv_iload_n hx hb dX6_slack_0 rfl (lv_at hl 1 rfl) ?_
    obtain ⟨r2, u1, e3, hF⟩ := bdI_some hF
    refine MM.callSi (m_X6_isSlack e3) k_X6_136 S ecOK hEs hK ⟨by decide, by decide⟩ rfl rfl hl.1 (Nat.le_of_ble_eq_true rfl) dX6_slack_1 ⟨Nat.le_refl _, Nat.le_refl _⟩ hP hD hS (fun H locs hP hD hS => ?_)
    refine lv_if_ne (tgt := 14) hx hb dX6_slack_4 (by decide) (fun c4 => ?_) (fun c4 => ?_)
    · have hF := ite_f hF c4
      refine lv_aload_n hx hb dX6_slack_14 rfl (lv_at hl 0 rfl) ?_
      refine va_get_w S hK hP _ c_SP rfl igX6 0 (by decide) q259 rfl rfl dX6_slack_15 ?_
      refine va_get_w S hK hP _ (c_AR ⟨by decide, by decide⟩) rfl igX0 2 (by decide) q144 rfl rfl dX6_slack_18 ?_
      refine lv_istore_n (lv' := [(2, .int _), (0, .ref _), (1, .int _)]) hx hb dX6_slack_21 rfl hl (by decide) rfl (fun ls hl => ?_)
      refine lv_aload_n hx hb dX6_slack_22 rfl (lv_at hl 1 rfl) ?_
      refine va_get_w S hK hP _ c_SP rfl igX6 0 (by decide) q259 rfl rfl dX6_slack_23 ?_
      refine lv_iload_n hx hb dX6_slack_26 rfl (lv_at hl 2 rfl) ?_
      refine va_put_w S igX0 tyX0 tyX0_ok nmX0 hK hP hD hS _ (c_AR ⟨by decide, by decide⟩) rfl 2 (by decide) q144 rfl rfl (tyX0_ok 2 (by decide)) rfl rfl (Nat.le_of_ble_eq_true rfl) (z_AR2 ⟨by decide, by decide⟩) dX6_slack_27 (fun H locs hP hD hS => ?_)
      refine lv_iload_n hx hb dX6_slack_30 rfl (lv_at hl 0 rfl) ?_
      obtain ⟨rfl, rfl⟩ := sp_eq hF
      exact retI S hr hlocks hP hD hS dX6_slack_31
    · have hF := ite_t hF c4
      refine lv_aload_n hx hb dX6_slack_7 rfl (lv_at hl 0 rfl) ?_
      refine lv_ldc hx hb hown (hts _ q291) dX6_slack_8 ?_
      obtain ⟨r6, u5, e7, hF⟩ := bdI_some hF
      refine MM.callVi (m_X6_found e7) k_X6_64 S ecOK hEs hK ⟨by decide, by decide⟩ (va_recv hK hP rfl c_SP) rfl rfl hl.1 (Nat.le_of_ble_eq_true rfl) dX6_slack_10 ⟨Nat.le_refl _, Nat.le_refl _⟩ hP hD hS (fun H locs hP hD hS => ?_)
      obtain ⟨rfl, rfl⟩ := sp_eq hF
      exact retI S hr hlocks hP hD hS dX6_slack_13
  have hl := lv_entry ([.ref (a 0), .int x1]) (n := 3) (Nat.le_of_ble_eq_true rfl)
  rw [lg_entry_eq]
  generalize (lg_sl ([.ref (a 0), .int x1]) ++ List.replicate (3 - (lg_sl ([.ref (a 0), .int x1])).length) Slot.unset).toArray = ls at hl ⊢
  exact b_main _ _ _ hP hD hS hl

set_option maxRecDepth 100000 in
set_option maxHeartbeats 4000000 in
theorem m_X6_areTwo  {x1 : Int32} {x2 : Int32} {u u' : Mem} {r : Int32}  (hF : F_X6_areTwo  u x1 x2 = some (r, u')) : MC l D cc a tU adK adV yX6_areTwo cX6_areTwo 3 (some .boolean) 1 21 [.ref (a 0), .int x1, .int x2] u (some (.int r)) u' := by
  refine MM.ofW (by decide) (fun p e s m below meth c S hr hlocks hK hEs hP hD hS => ?_)
  have S : CallFix p m c cX6_areTwo 3 s _ gtbl RX6 := S
  obtain ⟨hx, hb, hml, hown, hts⟩ := id S
  have b32 : ∀  (u : Mem) (y0 : Int32) , F_X6_areTwo_32  u y0 = some (r, u') → BW p l e s m below meth c 1 21 [.ref (a 0), .int x1, .int x2] D (AC a) (some (.int r)) (wlC cc a u') 3 (wlC cc a u) 32 [] [.int y0] := by
    intro  u y0 hF H locs ls hP hD hS hl
    unfold F_X6_areTwo_32 at hF
    obtain ⟨hz1, hF⟩ := gz_some hF
    obtain ⟨rfl, rfl⟩ := sp_eq hF
    exact retZ S hr hlocks hP hD hS hz1 dX6_areTwo_32
  have b31 : ∀  (u : Mem)  , F_X6_areTwo_31  u  = some (r, u') → BW p l e s m below meth c 1 21 [.ref (a 0), .int x1, .int x2] D (AC a) (some (.int r)) (wlC cc a u') 3 (wlC cc a u) 31 [] [] := by
    intro  u  hF H locs ls hP hD hS hl
    unfold F_X6_areTwo_31 at hF
    refine lv_iconst (v := 0) hx hb dX6_areTwo_31 (by decide) ?_
    exact b32 _ _  hF H locs ls hP hD hS (lv_sub hl [] rfl)
  unfold F_X6_areTwo at hF
  have b_main : BW p l e s m below meth c 1 21 [.ref (a 0), .int x1, .int x2] D (AC a) (some (.int r)) (wlC cc a u') 3 (wlC cc a u) 0 [(0, .ref (a 0)), (1, .int x1), (2, .int x2)] [] := by
    intro H locs ls hP hD hS hl
    refine lv_aload_n hx hb dX6_areTwo_0 rfl (lv_at hl 0 rfl) ?_
    refine va_get_w S hK hP _ c_SP rfl igX6 0 (by decide) q259 rfl rfl dX6_areTwo_1 ?_
    refine lv_iload_n hx hb dX6_areTwo_4 rfl (lv_at hl 1 rfl) ?_
    obtain ⟨r3, u2, e4, hF⟩ := bdI_some hF
    refine MM.callVi (m_X0_has ⟨by decide, by decide⟩ e4) k_X6_77 S ecOK hEs hK ⟨by decide, by decide⟩ (va_recv hK hP rfl (c_AR ⟨by decide, by decide⟩)) rfl rfl hl.1 (Nat.le_of_ble_eq_true rfl) dX6_areTwo_5 ⟨Nat.le_refl _, Nat.le_refl _⟩ hP hD hS (fun H locs hP hD hS => ?_)
    refine lv_if_eq (tgt := 31) hx hb dX6_areTwo_8 (by decide) (fun c5 => ?_) (fun c5 => ?_)
    · have hF := ite_t hF c5
      exact b31 _  hF H locs ls hP hD hS (lv_sub hl [] rfl)
    · have hF := ite_f hF c5
      refine lv_aload_n hx hb dX6_areTwo_11 rfl (lv_at hl 0 rfl) ?_
      refine va_get_w S hK hP _ c_SP rfl igX6 0 (by decide) q259 rfl rfl dX6_areTwo_12 ?_
      refine lv_iload_n hx hb dX6_areTwo_15 rfl (lv_at hl 2 rfl) ?_
      obtain ⟨r7, u6, e8, hF⟩ := bdI_some hF
      refine MM.callVi (m_X0_has ⟨by decide, by decide⟩ e8) k_X6_77 S ecOK hEs hK ⟨by decide, by decide⟩ (va_recv hK hP rfl (c_AR ⟨by decide, by decide⟩)) rfl rfl hl.1 (Nat.le_of_ble_eq_true rfl) dX6_areTwo_16 ⟨Nat.le_refl _, Nat.le_refl _⟩ hP hD hS (fun H locs hP hD hS => ?_)
      refine lv_if_eq (tgt := 31) hx hb dX6_areTwo_19 (by decide) (fun c9 => ?_) (fun c9 => ?_)
      · have hF := ite_t hF c9
        exact b31 _  hF H locs ls hP hD hS (lv_sub hl [] rfl)
      · have hF := ite_f hF c9
        refine lv_iload_n hx hb dX6_areTwo_22 rfl (lv_at hl 1 rfl) ?_
        refine lv_iload_n hx hb dX6_areTwo_23 rfl (lv_at hl 2 rfl) ?_
        refine lv_icmp_eq (tgt := 31) hx hb dX6_areTwo_24 (by decide) (fun c10 => ?_) (fun c10 => ?_)
        · have hF := ite_t hF c10
          exact b31 _  hF H locs ls hP hD hS (lv_sub hl [] rfl)
        · have hF := ite_f hF c10
          refine lv_iconst (v := 1) hx hb dX6_areTwo_27 (by decide) ?_
          refine lv_goto (tgt := 32) hx hb dX6_areTwo_28 (by decide) ?_
          exact b32 _ _  hF H locs ls hP hD hS (lv_sub hl [] rfl)
  have hl := lv_entry ([.ref (a 0), .int x1, .int x2]) (n := 3) (Nat.le_of_ble_eq_true rfl)
  rw [lg_entry_eq]
  generalize (lg_sl ([.ref (a 0), .int x1, .int x2]) ++ List.replicate (3 - (lg_sl ([.ref (a 0), .int x1, .int x2])).length) Slot.unset).toArray = ls at hl ⊢
  exact b_main _ _ _ hP hD hS hl

set_option maxRecDepth 100000 in
set_option maxHeartbeats 4000000 in
theorem m_X0_widthGap {x0 : Nat} {x1 : Int32} {x2 : Int32} {u u' : Mem} {r : Int32} (hx0 : 1 ≤ x0 ∧ x0 ≤ 3) (hF : F_X0_widthGap x0 u x1 x2 = some (r, u')) : MC l D cc a tU adK adV yX0_widthGap cX0_widthGap 3 (some .int) 1 24 [.ref (a (x0 + 3)), .int x1, .int x2] u (some (.int r)) u' := by
  refine MM.ofW (by decide) (fun p e s m below meth c S hr hlocks hK hEs hP hD hS => ?_)
  have S : CallFix p m c cX0_widthGap 3 s _ gtbl RX0 := S
  obtain ⟨hx, hb, hml, hown, hts⟩ := id S
  unfold F_X0_widthGap at hF
  have b_main : BW p l e s m below meth c 1 24 [.ref (a (x0 + 3)), .int x1, .int x2] D (AC a) (some (.int r)) (wlC cc a u') 3 (wlC cc a u) 0 [(0, .ref (a (x0 + 3))), (1, .int x1), (2, .int x2)] [] := by
    intro H locs ls hP hD hS hl
    refine lv_aload_n hx hb dX0_widthGap_0 rfl (lv_at hl 0 rfl) ?_
    refine va_get_w S hK hP _ (c_AR hx0) rfl igX0 0 (by decide) q134 rfl rfl dX0_widthGap_1 ?_
    refine lv_iload_n hx hb dX0_widthGap_4 rfl (lv_at hl 1 rfl) ?_
    obtain ⟨hin1, hF⟩ := gd_some hF
    have hp2 := r_PR (t := x0) hx0 hin1
    refine cPald S hK hP hx0 hin1 dX0_widthGap_5 ?_
    obtain ⟨r4, u3, e5, hF⟩ := bdI_some hF
    refine MM.callVi (m_X1_trueWidth hp2 e5) k_X0_61 S ecOK hEs hK ⟨by decide, by decide⟩ (va_recv hK hP rfl (c_PR hp2)) rfl rfl hl.1 (Nat.le_of_ble_eq_true rfl) dX0_widthGap_6 ⟨Nat.le_refl _, Nat.le_refl _⟩ hP hD hS (fun H locs hP hD hS => ?_)
    refine lv_aload_n hx hb dX0_widthGap_9 rfl (lv_at hl 0 rfl) ?_
    refine va_get_w S hK hP _ (c_AR hx0) rfl igX0 0 (by decide) q134 rfl rfl dX0_widthGap_10 ?_
    refine lv_iload_n hx hb dX0_widthGap_13 rfl (lv_at hl 2 rfl) ?_
    obtain ⟨hin6, hF⟩ := gd_some hF
    have hp7 := r_PR (t := x0) hx0 hin6
    refine cPald S hK hP hx0 hin6 dX0_widthGap_14 ?_
    obtain ⟨r9, u8, e10, hF⟩ := bdI_some hF
    refine MM.callVi (m_X1_trueWidth hp7 e10) k_X0_61 S ecOK hEs hK ⟨by decide, by decide⟩ (va_recv hK hP rfl (c_PR hp7)) rfl rfl hl.1 (Nat.le_of_ble_eq_true rfl) dX0_widthGap_15 ⟨Nat.le_refl _, Nat.le_refl _⟩ hP hD hS (fun H locs hP hD hS => ?_)
    refine lv_isub hx hb dX0_widthGap_18 ?_
    refine va_mabs hx hb (hml.trans hl.1.symm) hown (hts _ q410) (hts _ q411) (hts _ q73) (hts _ q412) (by decide) (Nat.le_of_ble_eq_true rfl) (Nat.le_refl _) (Nat.le_refl _) dX0_widthGap_19 ?_
    obtain ⟨rfl, rfl⟩ := sp_eq hF
    exact retI S hr hlocks hP hD hS dX0_widthGap_22
  have hl := lv_entry ([.ref (a (x0 + 3)), .int x1, .int x2]) (n := 3) (Nat.le_of_ble_eq_true rfl)
  rw [lg_entry_eq]
  generalize (lg_sl ([.ref (a (x0 + 3)), .int x1, .int x2]) ++ List.replicate (3 - (lg_sl ([.ref (a (x0 + 3)), .int x1, .int x2])).length) Slot.unset).toArray = ls at hl ⊢
  exact b_main _ _ _ hP hD hS hl

set_option maxRecDepth 100000 in
set_option maxHeartbeats 4000000 in
theorem m_X0_widthsAllow {x0 : Nat} {x1 : Int32} {x2 : Int32} {u u' : Mem} {r : Int32} (hx0 : 1 ≤ x0 ∧ x0 ≤ 3) (hF : F_X0_widthsAllow x0 u x1 x2 = some (r, u')) : MC l D cc a tU adK adV yX0_widthsAllow cX0_widthsAllow 3 (some .boolean) 2 46 [.ref (a (x0 + 3)), .int x1, .int x2] u (some (.int r)) u' := by
  refine MM.ofW (by decide) (fun p e s m below meth c S hr hlocks hK hEs hP hD hS => ?_)
  have S : CallFix p m c cX0_widthsAllow 3 s _ gtbl RX0 := S
  obtain ⟨hx, hb, hml, hown, hts⟩ := id S
  have b18 : ∀  (u : Mem) (y0 : Int32) , F_X0_widthsAllow_18  u y0 = some (r, u') → BW p l e s m below meth c 2 46 [.ref (a (x0 + 3)), .int x1, .int x2] D (AC a) (some (.int r)) (wlC cc a u') 3 (wlC cc a u) 18 [] [.int y0] := by
    intro  u y0 hF H locs ls hP hD hS hl
    unfold F_X0_widthsAllow_18 at hF
    obtain ⟨hz1, hF⟩ := gz_some hF
    obtain ⟨rfl, rfl⟩ := sp_eq hF
    exact retZ S hr hlocks hP hD hS hz1 dX0_widthsAllow_18
  unfold F_X0_widthsAllow at hF
  have b_main : BW p l e s m below meth c 2 46 [.ref (a (x0 + 3)), .int x1, .int x2] D (AC a) (some (.int r)) (wlC cc a u') 3 (wlC cc a u) 0 [(0, .ref (a (x0 + 3))), (1, .int x1), (2, .int x2)] [] := by
    intro H locs ls hP hD hS hl
    refine lv_aload_n hx hb dX0_widthsAllow_0 rfl (lv_at hl 0 rfl) ?_
    refine lv_iload_n hx hb dX0_widthsAllow_1 rfl (lv_at hl 1 rfl) ?_
    refine lv_iload_n hx hb dX0_widthsAllow_2 rfl (lv_at hl 2 rfl) ?_
    obtain ⟨r3, u2, e4, hF⟩ := bdI_some hF
    refine MM.callVi (m_X0_widthGap hx0 e4) k_X0_44 S ecOK hEs hK ⟨by decide, by decide⟩ (va_recv hK hP rfl (c_AR hx0)) rfl rfl hl.1 (Nat.le_of_ble_eq_true rfl) dX0_widthsAllow_3 ⟨Nat.le_refl _, Nat.le_refl _⟩ hP hD hS (fun H locs hP hD hS => ?_)
    refine lv_aload_n hx hb dX0_widthsAllow_6 rfl (lv_at hl 0 rfl) ?_
    refine va_get_w S hK hP _ (c_AR hx0) rfl igX0 2 (by decide) q142 rfl rfl dX0_widthsAllow_7 ?_
    refine lv_icmp_gt (tgt := 17) hx hb dX0_widthsAllow_10 (by decide) (fun c5 => ?_) (fun c5 => ?_)
    · have hF := ite_t hF c5
      refine lv_iconst (v := 0) hx hb dX0_widthsAllow_17 (by decide) ?_
      exact b18 _ _  hF H locs ls hP hD hS (lv_sub hl [] rfl)
    · have hF := ite_f hF c5
      refine lv_iconst (v := 1) hx hb dX0_widthsAllow_13 (by decide) ?_
      refine lv_goto (tgt := 18) hx hb dX0_widthsAllow_14 (by decide) ?_
      exact b18 _ _  hF H locs ls hP hD hS (lv_sub hl [] rfl)
  have hl := lv_entry ([.ref (a (x0 + 3)), .int x1, .int x2]) (n := 3) (Nat.le_of_ble_eq_true rfl)
  rw [lg_entry_eq]
  generalize (lg_sl ([.ref (a (x0 + 3)), .int x1, .int x2]) ++ List.replicate (3 - (lg_sl ([.ref (a (x0 + 3)), .int x1, .int x2])).length) Slot.unset).toArray = ls at hl ⊢
  exact b_main _ _ _ hP hD hS hl

set_option maxRecDepth 100000 in
set_option maxHeartbeats 4000000 in
theorem m_X1_bare {x0 : Nat}  {u u' : Mem} {r : Int64} (hx0 : 28 ≤ x0 ∧ x0 ≤ 63) (hF : F_X1_bare x0 u  = some (r, u')) : MC l D cc a tU adK adV yX1_bare cX1_bare 1 (some .long) 1 22 [.ref (a x0)] u (some (.long r)) u' := by
  refine MM.ofW (by decide) (fun p e s m below meth c S hr hlocks hK hEs hP hD hS => ?_)
  have S : CallFix p m c cX1_bare 1 s _ gtbl RX1 := S
  obtain ⟨hx, hb, hml, hown, hts⟩ := id S
  unfold F_X1_bare at hF
  have b_main : BW p l e s m below meth c 1 22 [.ref (a x0)] D (AC a) (some (.long r)) (wlC cc a u') 1 (wlC cc a u) 0 [(0, .ref (a x0))] [] := by
    intro H locs ls hP hD hS hl
    refine lv_ldc2 hx hb hown (hts _ q310) dX1_bare_0 ?_
    refine lv_aload_n hx hb dX1_bare_3 rfl (lv_at hl 0 rfl) ?_
    refine va_get_w S hK hP _ (c_PR hx0) rfl igX1 4 (by decide) q119 rfl rfl dX1_bare_4 ?_
    refine lv_aload_n hx hb dX1_bare_7 rfl (lv_at hl 0 rfl) ?_
    obtain ⟨r2, u1, e3, hF⟩ := bdL_some hF
    refine MM.callVl (m_X1_hidden hx0 e3) k_X1_37 S ecOK hEs hK ⟨by decide, by decide⟩ (va_recv hK hP rfl (c_PR hx0)) rfl rfl hl.1 (Nat.le_of_ble_eq_true rfl) dX1_bare_8 ⟨Nat.le_refl _, Nat.le_refl _⟩ hP hD hS (fun H locs hP hD hS => ?_)
    refine lv_lor hx hb dX1_bare_11 ?_
    refine lv_ldc2 hx hb hown (hts _ q334) dX1_bare_12 ?_
    refine lv_lxor hx hb dX1_bare_15 ?_
    refine lv_land hx hb dX1_bare_16 ?_
    obtain ⟨rfl, rfl⟩ := sp_eq hF
    exact retL S hr hlocks hP hD hS dX1_bare_17
  have hl := lv_entry ([.ref (a x0)]) (n := 1) (Nat.le_of_ble_eq_true rfl)
  rw [lg_entry_eq]
  generalize (lg_sl ([.ref (a x0)]) ++ List.replicate (1 - (lg_sl ([.ref (a x0)])).length) Slot.unset).toArray = ls at hl ⊢
  exact b_main _ _ _ hP hD hS hl

set_option maxRecDepth 100000 in
set_option maxHeartbeats 4000000 in
theorem m_X0_marksAllow {x0 : Nat} {x1 : Int32} {x2 : Int32} {u u' : Mem} {r : Int32} (hx0 : 1 ≤ x0 ∧ x0 ≤ 3) (hF : F_X0_marksAllow x0 u x1 x2 = some (r, u')) : MC l D cc a tU adK adV yX0_marksAllow cX0_marksAllow 3 (some .boolean) 2 42 [.ref (a (x0 + 3)), .int x1, .int x2] u (some (.int r)) u' := by
  refine MM.ofW (by decide) (fun p e s m below meth c S hr hlocks hK hEs hP hD hS => ?_)
  have S : CallFix p m c cX0_marksAllow 3 s _ gtbl RX0 := S
  obtain ⟨hx, hb, hml, hown, hts⟩ := id S
  have b42 : ∀  (u : Mem) (y0 : Int32) , F_X0_marksAllow_42  u y0 = some (r, u') → BW p l e s m below meth c 2 42 [.ref (a (x0 + 3)), .int x1, .int x2] D (AC a) (some (.int r)) (wlC cc a u') 3 (wlC cc a u) 42 [] [.int y0] := by
    intro  u y0 hF H locs ls hP hD hS hl
    unfold F_X0_marksAllow_42 at hF
    obtain ⟨hz1, hF⟩ := gz_some hF
    obtain ⟨rfl, rfl⟩ := sp_eq hF
    exact retZ S hr hlocks hP hD hS hz1 dX0_marksAllow_42
  have b37 : ∀  (u : Mem)  , F_X0_marksAllow_37  u  = some (r, u') → BW p l e s m below meth c 2 42 [.ref (a (x0 + 3)), .int x1, .int x2] D (AC a) (some (.int r)) (wlC cc a u') 3 (wlC cc a u) 37 [] [] := by
    intro  u  hF H locs ls hP hD hS hl
    unfold F_X0_marksAllow_37 at hF
    refine lv_iconst (v := 1) hx hb dX0_marksAllow_37 (by decide) ?_
    refine lv_goto (tgt := 42) hx hb dX0_marksAllow_38 (by decide) ?_
    exact b42 _ _  hF H locs ls hP hD hS (lv_sub hl [] rfl)
  unfold F_X0_marksAllow at hF
  have b_main : BW p l e s m below meth c 2 42 [.ref (a (x0 + 3)), .int x1, .int x2] D (AC a) (some (.int r)) (wlC cc a u') 3 (wlC cc a u) 0 [(0, .ref (a (x0 + 3))), (1, .int x1), (2, .int x2)] [] := by
    intro H locs ls hP hD hS hl
    refine lv_aload_n hx hb dX0_marksAllow_0 rfl (lv_at hl 0 rfl) ?_
    refine va_get_w S hK hP _ (c_AR hx0) rfl igX0 0 (by decide) q134 rfl rfl dX0_marksAllow_1 ?_
    refine lv_iload_n hx hb dX0_marksAllow_4 rfl (lv_at hl 2 rfl) ?_
    obtain ⟨hin2, hF⟩ := gd_some hF
    have hp3 := r_PR (t := x0) hx0 hin2
    refine cPald S hK hP hx0 hin2 dX0_marksAllow_5 ?_
    refine va_get_w S hK hP _ (c_PR hp3) rfl igX1 0 (by decide) q103 rfl rfl dX0_marksAllow_6 ?_
    refine lv_iconst (v := 4) hx hb dX0_marksAllow_9 (by decide) ?_
    refine lv_icmp_eq (tgt := 37) hx hb dX0_marksAllow_10 (by decide) (fun c4 => ?_) (fun c4 => ?_)
    · have hF := ite_t hF c4
      exact b37 _  hF H locs ls hP hD hS (lv_sub hl [] rfl)
    · have hF := ite_f hF c4
      refine lv_aload_n hx hb dX0_marksAllow_13 rfl (lv_at hl 0 rfl) ?_
      refine va_get_w S hK hP _ (c_AR hx0) rfl igX0 0 (by decide) q134 rfl rfl dX0_marksAllow_14 ?_
      refine lv_iload_n hx hb dX0_marksAllow_17 rfl (lv_at hl 1 rfl) ?_
      obtain ⟨hin5, hF⟩ := gd_some hF
      have hp6 := r_PR (t := x0) hx0 hin5
      refine cPald S hK hP hx0 hin5 dX0_marksAllow_18 ?_
      obtain ⟨r8, u7, e9, hF⟩ := bdL_some hF
      refine MM.callVl (m_X1_shown hp6 e9) k_X0_54 S ecOK hEs hK ⟨by decide, by decide⟩ (va_recv hK hP rfl (c_PR hp6)) rfl rfl hl.1 (Nat.le_of_ble_eq_true rfl) dX0_marksAllow_19 ⟨Nat.le_refl _, Nat.le_refl _⟩ hP hD hS (fun H locs hP hD hS => ?_)
      refine lv_aload_n hx hb dX0_marksAllow_22 rfl (lv_at hl 0 rfl) ?_
      refine va_get_w S hK hP _ (c_AR hx0) rfl igX0 0 (by decide) q134 rfl rfl dX0_marksAllow_23 ?_
      refine lv_iload_n hx hb dX0_marksAllow_26 rfl (lv_at hl 2 rfl) ?_
      obtain ⟨hin10, hF⟩ := gd_some hF
      have hp11 := r_PR (t := x0) hx0 hin10
      refine cPald S hK hP hx0 hin10 dX0_marksAllow_27 ?_
      obtain ⟨r13, u12, e14, hF⟩ := bdL_some hF
      refine MM.callVl (m_X1_bare hp11 e14) k_X0_58 S ecOK hEs hK ⟨by decide, by decide⟩ (va_recv hK hP rfl (c_PR hp11)) rfl rfl hl.1 (Nat.le_of_ble_eq_true rfl) dX0_marksAllow_28 ⟨Nat.le_refl _, Nat.le_refl _⟩ hP hD hS (fun H locs hP hD hS => ?_)
      refine lv_land hx hb dX0_marksAllow_31 ?_
      refine lv_lconst (v := 0) hx hb dX0_marksAllow_32 (by decide) ?_
      refine W.lcmp hx hb dX0_marksAllow_33 ?_
      refine lv_if_ne (tgt := 41) hx hb dX0_marksAllow_34 (by decide) (fun c15 => ?_) (fun c15 => ?_)
      · have hF := ite_f hF c15
        refine lv_iconst (v := 0) hx hb dX0_marksAllow_41 (by decide) ?_
        exact b42 _ _  hF H locs ls hP hD hS (lv_sub hl [] rfl)
      · have hF := ite_t hF c15
        exact b37 _  hF H locs ls hP hD hS (lv_sub hl [] rfl)
  have hl := lv_entry ([.ref (a (x0 + 3)), .int x1, .int x2]) (n := 3) (Nat.le_of_ble_eq_true rfl)
  rw [lg_entry_eq]
  generalize (lg_sl ([.ref (a (x0 + 3)), .int x1, .int x2]) ++ List.replicate (3 - (lg_sl ([.ref (a (x0 + 3)), .int x1, .int x2])).length) Slot.unset).toArray = ls at hl ⊢
  exact b_main _ _ _ hP hD hS hl

set_option maxRecDepth 100000 in
set_option maxHeartbeats 4000000 in
theorem m_X0_canBe {x0 : Nat} {x1 : Int32} {x2 : Int32} {u u' : Mem} {r : Int32} (hx0 : 1 ≤ x0 ∧ x0 ≤ 3) (hF : F_X0_canBe x0 u x1 x2 = some (r, u')) : MC l D cc a tU adK adV yX0_canBe cX0_canBe 3 (some .boolean) 3 68 [.ref (a (x0 + 3)), .int x1, .int x2] u (some (.int r)) u' := by
  refine MM.ofW (by decide) (fun p e s m below meth c S hr hlocks hK hEs hP hD hS => ?_)
  have S : CallFix p m c cX0_canBe 3 s _ gtbl RX0 := S
  obtain ⟨hx, hb, hml, hown, hts⟩ := id S
  have b23 : ∀  (u : Mem) (y0 : Int32) , F_X0_canBe_23  u y0 = some (r, u') → BW p l e s m below meth c 3 68 [.ref (a (x0 + 3)), .int x1, .int x2] D (AC a) (some (.int r)) (wlC cc a u') 3 (wlC cc a u) 23 [] [.int y0] := by
    intro  u y0 hF H locs ls hP hD hS hl
    unfold F_X0_canBe_23 at hF
    obtain ⟨hz1, hF⟩ := gz_some hF
    obtain ⟨rfl, rfl⟩ := sp_eq hF
    exact retZ S hr hlocks hP hD hS hz1 dX0_canBe_23
  have b22 : ∀  (u : Mem)  , F_X0_canBe_22  u  = some (r, u') → BW p l e s m below meth c 3 68 [.ref (a (x0 + 3)), .int x1, .int x2] D (AC a) (some (.int r)) (wlC cc a u') 3 (wlC cc a u) 22 [] [] := by
    intro  u  hF H locs ls hP hD hS hl
    unfold F_X0_canBe_22 at hF
    refine lv_iconst (v := 0) hx hb dX0_canBe_22 (by decide) ?_
    exact b23 _ _  hF H locs ls hP hD hS (lv_sub hl [] rfl)
  unfold F_X0_canBe at hF
  have b_main : BW p l e s m below meth c 3 68 [.ref (a (x0 + 3)), .int x1, .int x2] D (AC a) (some (.int r)) (wlC cc a u') 3 (wlC cc a u) 0 [(0, .ref (a (x0 + 3))), (1, .int x1), (2, .int x2)] [] := by
    intro H locs ls hP hD hS hl
    refine lv_aload_n hx hb dX0_canBe_0 rfl (lv_at hl 0 rfl) ?_
    refine lv_iload_n hx hb dX0_canBe_1 rfl (lv_at hl 1 rfl) ?_
    refine lv_iload_n hx hb dX0_canBe_2 rfl (lv_at hl 2 rfl) ?_
    obtain ⟨r3, u2, e4, hF⟩ := bdI_some hF
    refine MM.callVi (m_X0_widthsAllow hx0 e4) k_X0_37 S ecOK hEs hK ⟨by decide, by decide⟩ (va_recv hK hP rfl (c_AR hx0)) rfl rfl hl.1 (Nat.le_of_ble_eq_true rfl) dX0_canBe_3 ⟨Nat.le_refl _, Nat.le_refl _⟩ hP hD hS (fun H locs hP hD hS => ?_)
    refine lv_if_eq (tgt := 22) hx hb dX0_canBe_6 (by decide) (fun c5 => ?_) (fun c5 => ?_)
    · have hF := ite_t hF c5
      exact b22 _  hF H locs ls hP hD hS (lv_sub hl [] rfl)
    · have hF := ite_f hF c5
      refine lv_aload_n hx hb dX0_canBe_9 rfl (lv_at hl 0 rfl) ?_
      refine lv_iload_n hx hb dX0_canBe_10 rfl (lv_at hl 1 rfl) ?_
      refine lv_iload_n hx hb dX0_canBe_11 rfl (lv_at hl 2 rfl) ?_
      obtain ⟨r7, u6, e8, hF⟩ := bdI_some hF
      refine MM.callVi (m_X0_marksAllow hx0 e8) k_X0_41 S ecOK hEs hK ⟨by decide, by decide⟩ (va_recv hK hP rfl (c_AR hx0)) rfl rfl hl.1 (Nat.le_of_ble_eq_true rfl) dX0_canBe_12 ⟨Nat.le_refl _, Nat.le_refl _⟩ hP hD hS (fun H locs hP hD hS => ?_)
      refine lv_if_eq (tgt := 22) hx hb dX0_canBe_15 (by decide) (fun c9 => ?_) (fun c9 => ?_)
      · have hF := ite_t hF c9
        exact b22 _  hF H locs ls hP hD hS (lv_sub hl [] rfl)
      · have hF := ite_f hF c9
        refine lv_iconst (v := 1) hx hb dX0_canBe_18 (by decide) ?_
        refine lv_goto (tgt := 23) hx hb dX0_canBe_19 (by decide) ?_
        exact b23 _ _  hF H locs ls hP hD hS (lv_sub hl [] rfl)
  have hl := lv_entry ([.ref (a (x0 + 3)), .int x1, .int x2]) (n := 3) (Nat.le_of_ble_eq_true rfl)
  rw [lg_entry_eq]
  generalize (lg_sl ([.ref (a (x0 + 3)), .int x1, .int x2]) ++ List.replicate (3 - (lg_sl ([.ref (a (x0 + 3)), .int x1, .int x2])).length) Slot.unset).toArray = ls at hl ⊢
  exact b_main _ _ _ hP hD hS hl

end
