section
variable {l : Launch} {D : va_G} {cc : Nat → ClassId} {a : Nat → Nat}
set_option maxRecDepth 100000 in
set_option maxHeartbeats 4000000 in
theorem m_X7_in  {x0 : Int32} {x1 : Int32} {x2 : Int32} {u u' : Mem} {r : Int32}  (hF : F_X7_in  u x0 x1 x2 = some (r, u')) : MR l D cc a yX7_in cX7_in 3 (some .boolean) 0 0 [.int x0, .int x1, .int x2] u (some (.int r)) u' := by
  refine MM.ofW (by decide) (fun p e s m below meth c S hr hlocks hK hEs hP hD hS => ?_)
  have S : CallFix p m c cX7_in 3 s _ gtbl RX7 := S
  obtain ⟨hx, hb, hml, hown, hts⟩ := id S
  have b15 : ∀  (u : Mem) (y0 : Int32) , F_X7_in_15  u y0 = some (r, u') → BW p l e s m below meth c 0 0 [.int x0, .int x1, .int x2] D (AM a) (some (.int r)) (wlM cc a u') 3 (wlM cc a u) 15 [] [.int y0] := by
    intro  u y0 hF H locs ls hP hD hS hl
    unfold F_X7_in_15 at hF
    obtain ⟨hz1, hF⟩ := gz_some hF
    obtain ⟨rfl, rfl⟩ := sp_eq hF
    exact retZ S hr hlocks hP hD hS hz1 dX7_in_15
  have b14 : ∀  (u : Mem)  , F_X7_in_14  u  = some (r, u') → BW p l e s m below meth c 0 0 [.int x0, .int x1, .int x2] D (AM a) (some (.int r)) (wlM cc a u') 3 (wlM cc a u) 14 [] [] := by
    intro  u  hF H locs ls hP hD hS hl
    unfold F_X7_in_14 at hF
    refine lv_iconst (v := 0) hx hb dX7_in_14 (by decide) ?_
    exact b15 _ _  hF H locs ls hP hD hS (lv_sub hl [] rfl)
  unfold F_X7_in at hF
  have b_main : BW p l e s m below meth c 0 0 [.int x0, .int x1, .int x2] D (AM a) (some (.int r)) (wlM cc a u') 3 (wlM cc a u) 0 [(0, .int x0), (1, .int x1), (2, .int x2)] [] := by
    intro H locs ls hP hD hS hl
    refine lv_iload_n hx hb dX7_in_0 rfl (lv_at hl 0 rfl) ?_
    refine lv_iload_n hx hb dX7_in_1 rfl (lv_at hl 1 rfl) ?_
    refine lv_icmp_lt (tgt := 14) hx hb dX7_in_2 (by decide) (fun c2 => ?_) (fun c2 => ?_)
    · have hF := ite_t hF c2
      exact b14 _  hF H locs ls hP hD hS (lv_sub hl [] rfl)
    · have hF := ite_f hF c2
      refine lv_iload_n hx hb dX7_in_5 rfl (lv_at hl 0 rfl) ?_
      refine lv_iload_n hx hb dX7_in_6 rfl (lv_at hl 2 rfl) ?_
      refine lv_icmp_gt (tgt := 14) hx hb dX7_in_7 (by decide) (fun c3 => ?_) (fun c3 => ?_)
      · have hF := ite_t hF c3
        exact b14 _  hF H locs ls hP hD hS (lv_sub hl [] rfl)
      · have hF := ite_f hF c3
        refine lv_iconst (v := 1) hx hb dX7_in_10 (by decide) ?_
        refine lv_goto (tgt := 15) hx hb dX7_in_11 (by decide) ?_
        exact b15 _ _  hF H locs ls hP hD hS (lv_sub hl [] rfl)
  have hl := lv_entry ([.int x0, .int x1, .int x2]) (n := 3) (Nat.le_of_ble_eq_true rfl)
  rw [lg_entry_eq]
  generalize (lg_sl ([.int x0, .int x1, .int x2]) ++ List.replicate (3 - (lg_sl ([.int x0, .int x1, .int x2])).length) Slot.unset).toArray = ls at hl ⊢
  exact b_main _ _ _ hP hD hS hl

set_option maxRecDepth 100000 in
set_option maxHeartbeats 4000000 in
theorem m_X7_isKind  {x0 : Int32} {u u' : Mem} {r : Int32}  (hF : F_X7_isKind  u x0 = some (r, u')) : MR l D cc a yX7_isKind cX7_isKind 1 (some .boolean) 1 22 [.int x0] u (some (.int r)) u' := by
  refine MM.ofW (by decide) (fun p e s m below meth c S hr hlocks hK hEs hP hD hS => ?_)
  have S : CallFix p m c cX7_isKind 1 s _ gtbl RX7 := S
  obtain ⟨hx, hb, hml, hown, hts⟩ := id S
  unfold F_X7_isKind at hF
  have b_main : BW p l e s m below meth c 1 22 [.int x0] D (AM a) (some (.int r)) (wlM cc a u') 1 (wlM cc a u) 0 [(0, .int x0)] [] := by
    intro H locs ls hP hD hS hl
    refine lv_iload_n hx hb dX7_isKind_0 rfl (lv_at hl 0 rfl) ?_
    refine lv_iconst (v := 0) hx hb dX7_isKind_1 (by decide) ?_
    refine lv_iconst (v := 5) hx hb dX7_isKind_2 (by decide) ?_
    obtain ⟨r2, u1, e3, hF⟩ := bdI_some hF
    refine MM.callSi (m_X7_in e3) k_X7_64 S emOK hEs hK ⟨by decide, by decide⟩ rfl rfl hl.1 (Nat.le_of_ble_eq_true rfl) dX7_isKind_3 ⟨Nat.le_refl _, Nat.le_refl _⟩ hP hD hS (fun H locs hP hD hS => ?_)
    obtain ⟨hz4, hF⟩ := gz_some hF
    obtain ⟨rfl, rfl⟩ := sp_eq hF
    exact retZ S hr hlocks hP hD hS hz4 dX7_isKind_6
  have hl := lv_entry ([.int x0]) (n := 1) (Nat.le_of_ble_eq_true rfl)
  rw [lg_entry_eq]
  generalize (lg_sl ([.int x0]) ++ List.replicate (1 - (lg_sl ([.int x0])).length) Slot.unset).toArray = ls at hl ⊢
  exact b_main _ _ _ hP hD hS hl

set_option maxRecDepth 100000 in
set_option maxHeartbeats 4000000 in
theorem m_X7_finds  {x1 : Int32} {u u' : Mem} {r : Int32}  (hF : F_X7_finds  u x1 = some (r, u')) : MR l D cc a yX7_finds cX7_finds 2 (some .int) 0 0 [.ref (a 0), .int x1] u (some (.int r)) u' := by
  refine MM.ofW (by decide) (fun p e s m below meth c S hr hlocks hK hEs hP hD hS => ?_)
  have S : CallFix p m c cX7_finds 2 s _ gtbl RX7 := S
  obtain ⟨hx, hb, hml, hown, hts⟩ := id S
  unfold F_X7_finds at hF
  have b_main : BW p l e s m below meth c 0 0 [.ref (a 0), .int x1] D (AM a) (some (.int r)) (wlM cc a u') 2 (wlM cc a u) 0 [(0, .ref (a 0)), (1, .int x1)] [] := by
    intro H locs ls hP hD hS hl
    refine lv_aload_n hx hb dX7_finds_0 rfl (lv_at hl 0 rfl) ?_
    refine va_get_w S hK hP _ c_MO rfl igX7 2 (by decide) q881 rfl rfl dX7_finds_1 ?_
    refine lv_ldc hx hb hown (hts _ q966) dX7_finds_4 ?_
    refine lv_iload_n hx hb dX7_finds_6 rfl (lv_at hl 1 rfl) ?_
    refine lv_isub hx hb dX7_finds_7 ?_
    refine lv_dup2_11 hx hb dX7_finds_8 rfl rfl ?_
    obtain ⟨hin1, hF⟩ := gd_some hF
    refine mIald S hK hP ⟨rfl, by decide⟩ rfl hin1 dX7_finds_9 ?_
    refine lv_iconst (v := 1) hx hb dX7_finds_10 (by decide) ?_
    refine lv_iadd hx hb dX7_finds_11 ?_
    obtain ⟨hin2, hF⟩ := gd_some hF
    refine mIast S hK hP hD hS ⟨rfl, by decide⟩ rfl hin2 dX7_finds_12 (fun H locs hP hD hS => ?_)
    obtain ⟨u3, e4, hF⟩ := bdV_some hF
    obtain rfl := sv_eq e4
    refine lv_iload_n hx hb dX7_finds_13 rfl (lv_at hl 1 rfl) ?_
    obtain ⟨rfl, rfl⟩ := sp_eq hF
    exact retI S hr hlocks hP hD hS dX7_finds_14
  have hl := lv_entry ([.ref (a 0), .int x1]) (n := 2) (Nat.le_of_ble_eq_true rfl)
  rw [lg_entry_eq]
  generalize (lg_sl ([.ref (a 0), .int x1]) ++ List.replicate (2 - (lg_sl ([.ref (a 0), .int x1])).length) Slot.unset).toArray = ls at hl ⊢
  exact b_main _ _ _ hP hD hS hl

set_option maxRecDepth 100000 in
set_option maxHeartbeats 4000000 in
theorem m_X7_sets  {x1 : Int32} {x2 : Int32} {x3 : Int32} {u u' : Mem}  (hF : F_X7_sets  u x1 x2 x3 = some u') : MR l D cc a yX7_sets cX7_sets 4 none 0 0 [.ref (a 0), .int x1, .int x2, .int x3] u none u' := by
  refine MM.ofW (by decide) (fun p e s m below meth c S hr hlocks hK hEs hP hD hS => ?_)
  have S : CallFix p m c cX7_sets 4 s _ gtbl RX7 := S
  obtain ⟨hx, hb, hml, hown, hts⟩ := id S
  unfold F_X7_sets at hF
  have b_main : BW p l e s m below meth c 0 0 [.ref (a 0), .int x1, .int x2, .int x3] D (AM a) none (wlM cc a u') 4 (wlM cc a u) 0 [(0, .ref (a 0)), (1, .int x1), (2, .int x2), (3, .int x3)] [] := by
    intro H locs ls hP hD hS hl
    refine lv_aload_n hx hb dX7_sets_0 rfl (lv_at hl 0 rfl) ?_
    refine va_get_w S hK hP _ c_MO rfl igX7 0 (by decide) q879 rfl rfl dX7_sets_1 ?_
    refine lv_iconst (v := 2) hx hb dX7_sets_4 (by decide) ?_
    refine lv_iconst (v := 4) hx hb dX7_sets_5 (by decide) ?_
    refine lv_iload_n hx hb dX7_sets_6 rfl (lv_at hl 1 rfl) ?_
    refine lv_imul hx hb dX7_sets_7 ?_
    refine lv_iadd hx hb dX7_sets_8 ?_
    refine lv_iload_n hx hb dX7_sets_9 rfl (lv_at hl 2 rfl) ?_
    refine lv_iadd hx hb dX7_sets_10 ?_
    refine lv_iload_n hx hb dX7_sets_11 rfl (lv_at hl 3 rfl) ?_
    obtain ⟨hin1, hF⟩ := gd_some hF
    refine mIast S hK hP hD hS ⟨rfl, by decide⟩ rfl hin1 dX7_sets_12 (fun H locs hP hD hS => ?_)
    obtain rfl := sv_eq hF
    exact retV S hr hlocks hP hD hS dX7_sets_13
  have hl := lv_entry ([.ref (a 0), .int x1, .int x2, .int x3]) (n := 4) (Nat.le_of_ble_eq_true rfl)
  rw [lg_entry_eq]
  generalize (lg_sl ([.ref (a 0), .int x1, .int x2, .int x3]) ++ List.replicate (4 - (lg_sl ([.ref (a 0), .int x1, .int x2, .int x3])).length) Slot.unset).toArray = ls at hl ⊢
  exact b_main _ _ _ hP hD hS hl

set_option maxRecDepth 100000 in
set_option maxHeartbeats 4000000 in
theorem m_X7_addPrint  {x1 : Int32} {x2 : Int64} {x4 : Int32} {x5 : Int32} {x6 : Int32} {u u' : Mem}  (hF : F_X7_addPrint  u x1 x2 x4 x5 x6 = some u') : MR l D cc a yX7_addPrint cX7_addPrint 8 none 1 23 [.ref (a 0), .int x1, .long x2, .int x4, .int x5, .int x6] u none u' := by
  refine MM.ofW (by decide) (fun p e s m below meth c S hr hlocks hK hEs hP hD hS => ?_)
  have S : CallFix p m c cX7_addPrint 8 s _ gtbl RX7 := S
  obtain ⟨hx, hb, hml, hown, hts⟩ := id S
  unfold F_X7_addPrint at hF
  have b_main : BW p l e s m below meth c 1 23 [.ref (a 0), .int x1, .long x2, .int x4, .int x5, .int x6] D (AM a) none (wlM cc a u') 8 (wlM cc a u) 0 [(0, .ref (a 0)), (1, .int x1), (2, .long x2), (4, .int x4), (5, .int x5), (6, .int x6)] [] := by
    intro H locs ls hP hD hS hl
    refine lv_aload_n hx hb dX7_addPrint_0 rfl (lv_at hl 0 rfl) ?_
    refine va_get_w S hK hP _ c_MO rfl igX7 0 (by decide) q879 rfl rfl dX7_addPrint_1 ?_
    refine lv_iconst (v := 0) hx hb dX7_addPrint_4 (by decide) ?_
    obtain ⟨hin1, hF⟩ := gd_some hF
    refine mIald S hK hP ⟨rfl, by decide⟩ rfl hin1 dX7_addPrint_5 ?_
    refine lv_istore (lv' := [(7, .int _), (0, .ref _), (1, .int _), (2, .long _), (4, .int _), (5, .int _), (6, .int _)]) hx hb dX7_addPrint_6 hl (by decide) rfl (fun ls hl => ?_)
    refine lv_aload_n hx hb dX7_addPrint_8 rfl (lv_at hl 1 rfl) ?_
    refine va_get_w S hK hP _ c_MO rfl igX7 1 (by decide) q880 rfl rfl dX7_addPrint_9 ?_
    refine lv_iload hx hb dX7_addPrint_12 (lv_at hl 0 rfl) ?_
    refine lv_lload_n hx hb dX7_addPrint_14 rfl (lv_at hl 3 rfl) ?_
    refine lv_ldc2 hx hb hown (hts _ q976) dX7_addPrint_15 ?_
    refine lv_land hx hb dX7_addPrint_18 ?_
    obtain ⟨hin2, hF⟩ := gd_some hF
    refine mLast S hK hP hD hS ⟨rfl, by decide⟩ rfl hin2 dX7_addPrint_19 (fun H locs hP hD hS => ?_)
    obtain ⟨u3, e4, hF⟩ := bdV_some hF
    obtain rfl := sv_eq e4
    refine lv_aload_n hx hb dX7_addPrint_20 rfl (lv_at hl 1 rfl) ?_
    refine lv_iload hx hb dX7_addPrint_21 (lv_at hl 0 rfl) ?_
    refine lv_iconst (v := 0) hx hb dX7_addPrint_23 (by decide) ?_
    refine lv_iload_n hx hb dX7_addPrint_24 rfl (lv_at hl 2 rfl) ?_
    obtain ⟨u5, e7, hF⟩ := bdV_some hF
    refine MM.callVv (m_X7_sets e7) k_X7_86 S emOK hEs hK ⟨by decide, by decide⟩ (va_recv hK hP rfl c_MO) rfl rfl hl.1 (Nat.le_of_ble_eq_true rfl) dX7_addPrint_25 ⟨Nat.le_refl _, Nat.le_refl _⟩ hP hD hS (fun H locs hP hD hS => ?_)
    refine lv_aload_n hx hb dX7_addPrint_28 rfl (lv_at hl 1 rfl) ?_
    refine lv_iload hx hb dX7_addPrint_29 (lv_at hl 0 rfl) ?_
    refine lv_iconst (v := 1) hx hb dX7_addPrint_31 (by decide) ?_
    refine lv_iload hx hb dX7_addPrint_32 (lv_at hl 4 rfl) ?_
    obtain ⟨u8, e10, hF⟩ := bdV_some hF
    refine MM.callVv (m_X7_sets e10) k_X7_86 S emOK hEs hK ⟨by decide, by decide⟩ (va_recv hK hP rfl c_MO) rfl rfl hl.1 (Nat.le_of_ble_eq_true rfl) dX7_addPrint_34 ⟨Nat.le_refl _, Nat.le_refl _⟩ hP hD hS (fun H locs hP hD hS => ?_)
    refine lv_aload_n hx hb dX7_addPrint_37 rfl (lv_at hl 1 rfl) ?_
    refine lv_iload hx hb dX7_addPrint_38 (lv_at hl 0 rfl) ?_
    refine lv_iconst (v := 2) hx hb dX7_addPrint_40 (by decide) ?_
    refine lv_iload hx hb dX7_addPrint_41 (lv_at hl 5 rfl) ?_
    obtain ⟨u11, e13, hF⟩ := bdV_some hF
    refine MM.callVv (m_X7_sets e13) k_X7_86 S emOK hEs hK ⟨by decide, by decide⟩ (va_recv hK hP rfl c_MO) rfl rfl hl.1 (Nat.le_of_ble_eq_true rfl) dX7_addPrint_43 ⟨Nat.le_refl _, Nat.le_refl _⟩ hP hD hS (fun H locs hP hD hS => ?_)
    refine lv_aload_n hx hb dX7_addPrint_46 rfl (lv_at hl 1 rfl) ?_
    refine lv_iload hx hb dX7_addPrint_47 (lv_at hl 0 rfl) ?_
    refine lv_iconst (v := 3) hx hb dX7_addPrint_49 (by decide) ?_
    refine lv_iload hx hb dX7_addPrint_50 (lv_at hl 6 rfl) ?_
    obtain ⟨u14, e16, hF⟩ := bdV_some hF
    refine MM.callVv (m_X7_sets e16) k_X7_86 S emOK hEs hK ⟨by decide, by decide⟩ (va_recv hK hP rfl c_MO) rfl rfl hl.1 (Nat.le_of_ble_eq_true rfl) dX7_addPrint_52 ⟨Nat.le_refl _, Nat.le_refl _⟩ hP hD hS (fun H locs hP hD hS => ?_)
    refine lv_aload_n hx hb dX7_addPrint_55 rfl (lv_at hl 1 rfl) ?_
    refine va_get_w S hK hP _ c_MO rfl igX7 0 (by decide) q879 rfl rfl dX7_addPrint_56 ?_
    refine lv_iconst (v := 0) hx hb dX7_addPrint_59 (by decide) ?_
    refine lv_dup2_11 hx hb dX7_addPrint_60 rfl rfl ?_
    obtain ⟨hin17, hF⟩ := gd_some hF
    refine mIald S hK hP ⟨rfl, by decide⟩ rfl hin17 dX7_addPrint_61 ?_
    refine lv_iconst (v := 1) hx hb dX7_addPrint_62 (by decide) ?_
    refine lv_iadd hx hb dX7_addPrint_63 ?_
    obtain ⟨hin18, hF⟩ := gd_some hF
    refine mIast S hK hP hD hS ⟨rfl, by decide⟩ rfl hin18 dX7_addPrint_64 (fun H locs hP hD hS => ?_)
    obtain ⟨u19, e20, hF⟩ := bdV_some hF
    obtain rfl := sv_eq e20
    obtain rfl := sv_eq hF
    exact retV S hr hlocks hP hD hS dX7_addPrint_65
  have hl := lv_entry ([.ref (a 0), .int x1, .long x2, .int x4, .int x5, .int x6]) (n := 8) (Nat.le_of_ble_eq_true rfl)
  rw [lg_entry_eq]
  generalize (lg_sl ([.ref (a 0), .int x1, .long x2, .int x4, .int x5, .int x6]) ++ List.replicate (8 - (lg_sl ([.ref (a 0), .int x1, .long x2, .int x4, .int x5, .int x6])).length) Slot.unset).toArray = ls at hl ⊢
  exact b_main _ _ _ hP hD hS hl

set_option maxRecDepth 100000 in
set_option maxHeartbeats 4000000 in
theorem m_X7_print  {x1 : Int32} {x2 : Int64} {u u' : Mem} {r : Int32}  (hF : F_X7_print  u x1 x2 = some (r, u')) : MR l D cc a yX7_print cX7_print 4 (some .int) 2 50 [.ref (a 0), .int x1, .long x2] u (some (.int r)) u' := by
  refine MM.ofW (by decide) (fun p e s m below meth c S hr hlocks hK hEs hP hD hS => ?_)
  have S : CallFix p m c cX7_print 4 s _ gtbl RX7 := S
  obtain ⟨hx, hb, hml, hown, hts⟩ := id S
  unfold F_X7_print at hF
  have b_main : BW p l e s m below meth c 2 50 [.ref (a 0), .int x1, .long x2] D (AM a) (some (.int r)) (wlM cc a u') 4 (wlM cc a u) 0 [(0, .ref (a 0)), (1, .int x1), (2, .long x2)] [] := by
    intro H locs ls hP hD hS hl
    refine lv_iload_n hx hb dX7_print_0 rfl (lv_at hl 1 rfl) ?_
    obtain ⟨r2, u1, e3, hF⟩ := bdI_some hF
    refine MM.callSi (m_X7_isKind e3) k_X7_90 S emOK hEs hK ⟨by decide, by decide⟩ rfl rfl hl.1 (Nat.le_of_ble_eq_true rfl) dX7_print_1 ⟨Nat.le_refl _, Nat.le_refl _⟩ hP hD hS (fun H locs hP hD hS => ?_)
    refine lv_if_ne (tgt := 14) hx hb dX7_print_4 (by decide) (fun c4 => ?_) (fun c4 => ?_)
    · have hF := ite_f hF c4
      refine lv_aload_n hx hb dX7_print_14 rfl (lv_at hl 0 rfl) ?_
      refine va_get_w S hK hP _ c_MO rfl igX7 0 (by decide) q879 rfl rfl dX7_print_15 ?_
      refine lv_iconst (v := 0) hx hb dX7_print_18 (by decide) ?_
      obtain ⟨hin5, hF⟩ := gd_some hF
      refine mIald S hK hP ⟨rfl, by decide⟩ rfl hin5 dX7_print_19 ?_
      refine lv_bipush (v := 12) hx hb dX7_print_20 (by decide) ?_
      refine lv_icmp_ne (tgt := 32) hx hb dX7_print_22 (by decide) (fun c6 => ?_) (fun c6 => ?_)
      · have hF := ite_f hF c6
        refine lv_aload_n hx hb dX7_print_32 rfl (lv_at hl 0 rfl) ?_
        refine lv_iload_n hx hb dX7_print_33 rfl (lv_at hl 1 rfl) ?_
        refine lv_lload_n hx hb dX7_print_34 rfl (lv_at hl 2 rfl) ?_
        refine lv_sipush (v := 1000) hx hb dX7_print_35 (by decide) ?_
        refine lv_iconst (v := 0) hx hb dX7_print_38 (by decide) ?_
        refine lv_iconst (v := 0) hx hb dX7_print_39 (by decide) ?_
        obtain ⟨u7, e9, hF⟩ := bdV_some hF
        refine MM.callVv (m_X7_addPrint e9) k_X7_99 S emOK hEs hK ⟨by decide, by decide⟩ (va_recv hK hP rfl c_MO) rfl rfl hl.1 (Nat.le_of_ble_eq_true rfl) dX7_print_40 ⟨Nat.le_refl _, Nat.le_refl _⟩ hP hD hS (fun H locs hP hD hS => ?_)
        refine lv_aload_n hx hb dX7_print_43 rfl (lv_at hl 0 rfl) ?_
        refine va_get_w S hK hP _ c_MO rfl igX7 0 (by decide) q879 rfl rfl dX7_print_44 ?_
        refine lv_iconst (v := 0) hx hb dX7_print_47 (by decide) ?_
        obtain ⟨hin10, hF⟩ := gd_some hF
        refine mIald S hK hP ⟨rfl, by decide⟩ rfl hin10 dX7_print_48 ?_
        refine lv_iconst (v := 1) hx hb dX7_print_49 (by decide) ?_
        refine lv_isub hx hb dX7_print_50 ?_
        obtain ⟨rfl, rfl⟩ := sp_eq hF
        exact retI S hr hlocks hP hD hS dX7_print_51
      · have hF := ite_t hF c6
        refine lv_aload_n hx hb dX7_print_25 rfl (lv_at hl 0 rfl) ?_
        refine lv_ldc hx hb hown (hts _ q971) dX7_print_26 ?_
        obtain ⟨r12, u11, e13, hF⟩ := bdI_some hF
        refine MM.callVi (m_X7_finds e13) k_X7_94 S emOK hEs hK ⟨by decide, by decide⟩ (va_recv hK hP rfl c_MO) rfl rfl hl.1 (Nat.le_of_ble_eq_true rfl) dX7_print_28 ⟨Nat.le_refl _, Nat.le_refl _⟩ hP hD hS (fun H locs hP hD hS => ?_)
        obtain ⟨rfl, rfl⟩ := sp_eq hF
        exact retI S hr hlocks hP hD hS dX7_print_31
    · have hF := ite_t hF c4
      refine lv_aload_n hx hb dX7_print_7 rfl (lv_at hl 0 rfl) ?_
      refine lv_ldc hx hb hown (hts _ q966) dX7_print_8 ?_
      obtain ⟨r15, u14, e16, hF⟩ := bdI_some hF
      refine MM.callVi (m_X7_finds e16) k_X7_94 S emOK hEs hK ⟨by decide, by decide⟩ (va_recv hK hP rfl c_MO) rfl rfl hl.1 (Nat.le_of_ble_eq_true rfl) dX7_print_10 ⟨Nat.le_refl _, Nat.le_refl _⟩ hP hD hS (fun H locs hP hD hS => ?_)
      obtain ⟨rfl, rfl⟩ := sp_eq hF
      exact retI S hr hlocks hP hD hS dX7_print_13
  have hl := lv_entry ([.ref (a 0), .int x1, .long x2]) (n := 4) (Nat.le_of_ble_eq_true rfl)
  rw [lg_entry_eq]
  generalize (lg_sl ([.ref (a 0), .int x1, .long x2]) ++ List.replicate (4 - (lg_sl ([.ref (a 0), .int x1, .long x2])).length) Slot.unset).toArray = ls at hl ⊢
  exact b_main _ _ _ hP hD hS hl

set_option maxRecDepth 100000 in
set_option maxHeartbeats 4000000 in
theorem m_X7_isPrint  {x1 : Int32} {u u' : Mem} {r : Int32}  (hF : F_X7_isPrint  u x1 = some (r, u')) : MR l D cc a yX7_isPrint cX7_isPrint 2 (some .boolean) 1 22 [.ref (a 0), .int x1] u (some (.int r)) u' := by
  refine MM.ofW (by decide) (fun p e s m below meth c S hr hlocks hK hEs hP hD hS => ?_)
  have S : CallFix p m c cX7_isPrint 2 s _ gtbl RX7 := S
  obtain ⟨hx, hb, hml, hown, hts⟩ := id S
  unfold F_X7_isPrint at hF
  have b_main : BW p l e s m below meth c 1 22 [.ref (a 0), .int x1] D (AM a) (some (.int r)) (wlM cc a u') 2 (wlM cc a u) 0 [(0, .ref (a 0)), (1, .int x1)] [] := by
    intro H locs ls hP hD hS hl
    refine lv_iload_n hx hb dX7_isPrint_0 rfl (lv_at hl 1 rfl) ?_
    refine lv_iconst (v := 0) hx hb dX7_isPrint_1 (by decide) ?_
    refine lv_aload_n hx hb dX7_isPrint_2 rfl (lv_at hl 0 rfl) ?_
    refine va_get_w S hK hP _ c_MO rfl igX7 0 (by decide) q879 rfl rfl dX7_isPrint_3 ?_
    refine lv_iconst (v := 0) hx hb dX7_isPrint_6 (by decide) ?_
    obtain ⟨hin1, hF⟩ := gd_some hF
    refine mIald S hK hP ⟨rfl, by decide⟩ rfl hin1 dX7_isPrint_7 ?_
    refine lv_iconst (v := 1) hx hb dX7_isPrint_8 (by decide) ?_
    refine lv_isub hx hb dX7_isPrint_9 ?_
    obtain ⟨r3, u2, e4, hF⟩ := bdI_some hF
    refine MM.callSi (m_X7_in e4) k_X7_64 S emOK hEs hK ⟨by decide, by decide⟩ rfl rfl hl.1 (Nat.le_of_ble_eq_true rfl) dX7_isPrint_10 ⟨Nat.le_refl _, Nat.le_refl _⟩ hP hD hS (fun H locs hP hD hS => ?_)
    obtain ⟨hz5, hF⟩ := gz_some hF
    obtain ⟨rfl, rfl⟩ := sp_eq hF
    exact retZ S hr hlocks hP hD hS hz5 dX7_isPrint_13
  have hl := lv_entry ([.ref (a 0), .int x1]) (n := 2) (Nat.le_of_ble_eq_true rfl)
  rw [lg_entry_eq]
  generalize (lg_sl ([.ref (a 0), .int x1]) ++ List.replicate (2 - (lg_sl ([.ref (a 0), .int x1])).length) Slot.unset).toArray = ls at hl ⊢
  exact b_main _ _ _ hP hD hS hl

set_option maxRecDepth 100000 in
set_option maxHeartbeats 4000000 in
theorem m_X7_its  {x1 : Int32} {x2 : Int32} {u u' : Mem} {r : Int32}  (hF : F_X7_its  u x1 x2 = some (r, u')) : MR l D cc a yX7_its cX7_its 3 (some .int) 0 0 [.ref (a 0), .int x1, .int x2] u (some (.int r)) u' := by
  refine MM.ofW (by decide) (fun p e s m below meth c S hr hlocks hK hEs hP hD hS => ?_)
  have S : CallFix p m c cX7_its 3 s _ gtbl RX7 := S
  obtain ⟨hx, hb, hml, hown, hts⟩ := id S
  unfold F_X7_its at hF
  have b_main : BW p l e s m below meth c 0 0 [.ref (a 0), .int x1, .int x2] D (AM a) (some (.int r)) (wlM cc a u') 3 (wlM cc a u) 0 [(0, .ref (a 0)), (1, .int x1), (2, .int x2)] [] := by
    intro H locs ls hP hD hS hl
    refine lv_aload_n hx hb dX7_its_0 rfl (lv_at hl 0 rfl) ?_
    refine va_get_w S hK hP _ c_MO rfl igX7 0 (by decide) q879 rfl rfl dX7_its_1 ?_
    refine lv_iconst (v := 2) hx hb dX7_its_4 (by decide) ?_
    refine lv_iconst (v := 4) hx hb dX7_its_5 (by decide) ?_
    refine lv_iload_n hx hb dX7_its_6 rfl (lv_at hl 1 rfl) ?_
    refine lv_imul hx hb dX7_its_7 ?_
    refine lv_iadd hx hb dX7_its_8 ?_
    refine lv_iload_n hx hb dX7_its_9 rfl (lv_at hl 2 rfl) ?_
    refine lv_iadd hx hb dX7_its_10 ?_
    obtain ⟨hin1, hF⟩ := gd_some hF
    refine mIald S hK hP ⟨rfl, by decide⟩ rfl hin1 dX7_its_11 ?_
    obtain ⟨rfl, rfl⟩ := sp_eq hF
    exact retI S hr hlocks hP hD hS dX7_its_12
  have hl := lv_entry ([.ref (a 0), .int x1, .int x2]) (n := 3) (Nat.le_of_ble_eq_true rfl)
  rw [lg_entry_eq]
  generalize (lg_sl ([.ref (a 0), .int x1, .int x2]) ++ List.replicate (3 - (lg_sl ([.ref (a 0), .int x1, .int x2])).length) Slot.unset).toArray = ls at hl ⊢
  exact b_main _ _ _ hP hD hS hl

set_option maxRecDepth 100000 in
set_option maxHeartbeats 4000000 in
theorem m_X7_trueWidth  {x1 : Int32} {u u' : Mem} {r : Int32}  (hF : F_X7_trueWidth  u x1 = some (r, u')) : MR l D cc a yX7_trueWidth cX7_trueWidth 3 (some .int) 1 22 [.ref (a 0), .int x1] u (some (.int r)) u' := by
  refine MM.ofW (by decide) (fun p e s m below meth c S hr hlocks hK hEs hP hD hS => ?_)
  have S : CallFix p m c cX7_trueWidth 3 s _ gtbl RX7 := S
  obtain ⟨hx, hb, hml, hown, hts⟩ := id S
  have b89 : ∀  (u : Mem) (v2 : Int32) , F_X7_trueWidth_89  u v2 = some (r, u') → BW p l e s m below meth c 1 22 [.ref (a 0), .int x1] D (AM a) (some (.int r)) (wlM cc a u') 3 (wlM cc a u) 89 [(2, .int v2)] [] := by
    intro  u v2 hF H locs ls hP hD hS hl
    unfold F_X7_trueWidth_89 at hF
    refine lv_iload_n hx hb dX7_trueWidth_89 rfl (lv_at hl 0 rfl) ?_
    obtain ⟨rfl, rfl⟩ := sp_eq hF
    exact retI S hr hlocks hP hD hS dX7_trueWidth_90
  unfold F_X7_trueWidth at hF
  have b_main : BW p l e s m below meth c 1 22 [.ref (a 0), .int x1] D (AM a) (some (.int r)) (wlM cc a u') 3 (wlM cc a u) 0 [(0, .ref (a 0)), (1, .int x1)] [] := by
    intro H locs ls hP hD hS hl
    refine lv_aload_n hx hb dX7_trueWidth_0 rfl (lv_at hl 0 rfl) ?_
    refine lv_iload_n hx hb dX7_trueWidth_1 rfl (lv_at hl 1 rfl) ?_
    refine lv_iconst (v := 1) hx hb dX7_trueWidth_2 (by decide) ?_
    obtain ⟨r2, u1, e3, hF⟩ := bdI_some hF
    refine MM.callVi (m_X7_its e3) k_X7_68 S emOK hEs hK ⟨by decide, by decide⟩ (va_recv hK hP rfl c_MO) rfl rfl hl.1 (Nat.le_of_ble_eq_true rfl) dX7_trueWidth_3 ⟨Nat.le_refl _, Nat.le_refl _⟩ hP hD hS (fun H locs hP hD hS => ?_)
    refine lv_istore_n (lv' := [(2, .int _), (0, .ref _), (1, .int _)]) hx hb dX7_trueWidth_6 rfl hl (by decide) rfl (fun ls hl => ?_)
    refine lv_aload_n hx hb dX7_trueWidth_7 rfl (lv_at hl 1 rfl) ?_
    refine lv_iload_n hx hb dX7_trueWidth_8 rfl (lv_at hl 2 rfl) ?_
    refine lv_iconst (v := 0) hx hb dX7_trueWidth_9 (by decide) ?_
    obtain ⟨r5, u4, e6, hF⟩ := bdI_some hF
    refine MM.callVi (m_X7_its e6) k_X7_68 S emOK hEs hK ⟨by decide, by decide⟩ (va_recv hK hP rfl c_MO) rfl rfl hl.1 (Nat.le_of_ble_eq_true rfl) dX7_trueWidth_10 ⟨Nat.le_refl _, Nat.le_refl _⟩ hP hD hS (fun H locs hP hD hS => ?_)
    by_cases w7 : r5 = 1
    · have hF := ite_t hF w7
      refine lv_tableIn (off := 35) (tgt := 48) hx hb dX7_trueWidth_13 (by rw [w7]; decide) (by rw [w7]; decide) (by rw [w7]; rfl) (by decide) ?_
      refine lv_bipush (v := 100) hx hb dX7_trueWidth_48 (by decide) ?_
      refine lv_iload_n hx hb dX7_trueWidth_50 rfl (lv_at hl 0 rfl) ?_
      refine lv_imul hx hb dX7_trueWidth_51 ?_
      refine lv_bipush (v := 90) hx hb dX7_trueWidth_52 (by decide) ?_
      refine lv_idiv hx hb dX7_trueWidth_54 (by decide) ?_
      obtain ⟨rfl, rfl⟩ := sp_eq hF
      exact retI S hr hlocks hP hD hS dX7_trueWidth_55
    · have hF := ite_f hF w7
      by_cases w8 : r5 = 2
      · have hF := ite_t hF w8
        refine lv_tableIn (off := 43) (tgt := 56) hx hb dX7_trueWidth_13 (by rw [w8]; decide) (by rw [w8]; decide) (by rw [w8]; rfl) (by decide) ?_
        refine lv_bipush (v := 100) hx hb dX7_trueWidth_56 (by decide) ?_
        refine lv_iload_n hx hb dX7_trueWidth_58 rfl (lv_at hl 0 rfl) ?_
        refine lv_imul hx hb dX7_trueWidth_59 ?_
        refine lv_bipush (v := 97) hx hb dX7_trueWidth_60 (by decide) ?_
        refine lv_idiv hx hb dX7_trueWidth_62 (by decide) ?_
        obtain ⟨rfl, rfl⟩ := sp_eq hF
        exact retI S hr hlocks hP hD hS dX7_trueWidth_63
      · have hF := ite_f hF w8
        by_cases w9 : r5 = 3
        · have hF := ite_t hF w9
          refine lv_tableIn (off := 51) (tgt := 64) hx hb dX7_trueWidth_13 (by rw [w9]; decide) (by rw [w9]; decide) (by rw [w9]; rfl) (by decide) ?_
          refine lv_bipush (v := 100) hx hb dX7_trueWidth_64 (by decide) ?_
          refine lv_iload_n hx hb dX7_trueWidth_66 rfl (lv_at hl 0 rfl) ?_
          refine lv_imul hx hb dX7_trueWidth_67 ?_
          refine lv_bipush (v := 97) hx hb dX7_trueWidth_68 (by decide) ?_
          refine lv_idiv hx hb dX7_trueWidth_70 (by decide) ?_
          refine lv_bipush (v := 10) hx hb dX7_trueWidth_71 (by decide) ?_
          refine lv_iadd hx hb dX7_trueWidth_73 ?_
          obtain ⟨rfl, rfl⟩ := sp_eq hF
          exact retI S hr hlocks hP hD hS dX7_trueWidth_74
        · have hF := ite_f hF w9
          by_cases w10 : r5 = 4
          · have hF := ite_t hF w10
            refine lv_tableIn (off := 76) (tgt := 89) hx hb dX7_trueWidth_13 (by rw [w10]; decide) (by rw [w10]; decide) (by rw [w10]; rfl) (by decide) ?_
            exact b89 _ _  hF H locs ls hP hD hS (lv_sub hl [0] rfl)
          · have hF := ite_f hF w10
            by_cases w11 : r5 = 5
            · have hF := ite_t hF w11
              refine lv_tableIn (off := 62) (tgt := 75) hx hb dX7_trueWidth_13 (by rw [w11]; decide) (by rw [w11]; decide) (by rw [w11]; rfl) (by decide) ?_
              refine lv_bipush (v := 100) hx hb dX7_trueWidth_75 (by decide) ?_
              refine lv_bipush (v := 100) hx hb dX7_trueWidth_77 (by decide) ?_
              refine lv_iload_n hx hb dX7_trueWidth_79 rfl (lv_at hl 0 rfl) ?_
              refine lv_imul hx hb dX7_trueWidth_80 ?_
              refine lv_bipush (v := 90) hx hb dX7_trueWidth_81 (by decide) ?_
              refine lv_idiv hx hb dX7_trueWidth_83 (by decide) ?_
              refine lv_imul hx hb dX7_trueWidth_84 ?_
              refine lv_bipush (v := 80) hx hb dX7_trueWidth_85 (by decide) ?_
              refine lv_idiv hx hb dX7_trueWidth_87 (by decide) ?_
              obtain ⟨rfl, rfl⟩ := sp_eq hF
              exact retI S hr hlocks hP hD hS dX7_trueWidth_88
            · have hF := ite_f hF w11
              refine lv_tableOut (tgt := 89) hx hb dX7_trueWidth_13 (by have zw7 := ne_toInt (z := 1) w7 (by decide); have zw8 := ne_toInt (z := 2) w8 (by decide); have zw9 := ne_toInt (z := 3) w9 (by decide); have zw10 := ne_toInt (z := 4) w10 (by decide); have zw11 := ne_toInt (z := 5) w11 (by decide); omega) (by decide) ?_
              exact b89 _ _  hF H locs ls hP hD hS (lv_sub hl [0] rfl)
  have hl := lv_entry ([.ref (a 0), .int x1]) (n := 3) (Nat.le_of_ble_eq_true rfl)
  rw [lg_entry_eq]
  generalize (lg_sl ([.ref (a 0), .int x1]) ++ List.replicate (3 - (lg_sl ([.ref (a 0), .int x1])).length) Slot.unset).toArray = ls at hl ⊢
  exact b_main _ _ _ hP hD hS hl

set_option maxRecDepth 100000 in
set_option maxHeartbeats 4000000 in
theorem m_X7_hides  {x1 : Int32} {u u' : Mem} {r : Int64}  (hF : F_X7_hides  u x1 = some (r, u')) : MR l D cc a yX7_hides cX7_hides 5 (some .long) 1 22 [.ref (a 0), .int x1] u (some (.long r)) u' := by
  refine MM.ofW (by decide) (fun p e s m below meth c S hr hlocks hK hEs hP hD hS => ?_)
  have S : CallFix p m c cX7_hides 5 s _ gtbl RX7 := S
  obtain ⟨hx, hb, hml, hown, hts⟩ := id S
  have b60 : ∀  (u : Mem) (y0 : Int64) (y1 : Int64) , F_X7_hides_60  u y0 y1 = some (r, u') → BW p l e s m below meth c 1 22 [.ref (a 0), .int x1] D (AM a) (some (.long r)) (wlM cc a u') 5 (wlM cc a u) 60 [] [.long y1, .long y0] := by
    intro  u y0 y1 hF H locs ls hP hD hS hl
    unfold F_X7_hides_60 at hF
    refine lv_lor hx hb dX7_hides_60 ?_
    obtain ⟨rfl, rfl⟩ := sp_eq hF
    exact retL S hr hlocks hP hD hS dX7_hides_61
  have b46 : ∀  (u : Mem) (v4 : Int32) (y0 : Int64) (y1 : Int64) , F_X7_hides_46  u v4 y0 y1 = some (r, u') → BW p l e s m below meth c 1 22 [.ref (a 0), .int x1] D (AM a) (some (.long r)) (wlM cc a u') 5 (wlM cc a u) 46 [(4, .int v4)] [.long y1, .long y0] := by
    intro  u v4 y0 y1 hF H locs ls hP hD hS hl
    unfold F_X7_hides_46 at hF
    refine lv_lor hx hb dX7_hides_46 ?_
    refine lv_iload hx hb dX7_hides_47 (lv_at hl 0 rfl) ?_
    refine lv_iconst (v := 5) hx hb dX7_hides_49 (by decide) ?_
    refine lv_icmp_ne (tgt := 59) hx hb dX7_hides_50 (by decide) (fun c1 => ?_) (fun c1 => ?_)
    · have hF := ite_f hF c1
      refine lv_lconst (v := 0) hx hb dX7_hides_59 (by decide) ?_
      exact b60 _ _ _  hF H locs ls hP hD hS (lv_sub hl [] rfl)
    · have hF := ite_t hF c1
      refine lv_ldc2 hx hb hown (hts _ q1007) dX7_hides_53 ?_
      refine lv_goto (tgt := 60) hx hb dX7_hides_56 (by decide) ?_
      exact b60 _ _ _  hF H locs ls hP hD hS (lv_sub hl [] rfl)
  have b39 : ∀  (u : Mem) (v4 : Int32) (y0 : Int64) , F_X7_hides_39  u v4 y0 = some (r, u') → BW p l e s m below meth c 1 22 [.ref (a 0), .int x1] D (AM a) (some (.long r)) (wlM cc a u') 5 (wlM cc a u) 39 [(4, .int v4)] [.long y0] := by
    intro  u v4 y0 hF H locs ls hP hD hS hl
    unfold F_X7_hides_39 at hF
    refine lv_ldc2 hx hb hown (hts _ q1006) dX7_hides_39 ?_
    refine lv_goto (tgt := 46) hx hb dX7_hides_42 (by decide) ?_
    exact b46 _ _ _ _  hF H locs ls hP hD hS (lv_sub hl [0] rfl)
  have b17 : ∀  (u : Mem) (v1 : Int32) (y0 : Int64) , F_X7_hides_17  u v1 y0 = some (r, u') → BW p l e s m below meth c 1 22 [.ref (a 0), .int x1] D (AM a) (some (.long r)) (wlM cc a u') 5 (wlM cc a u) 17 [(0, .ref (a 0)), (1, .int v1)] [.long y0] := by
    intro  u v1 y0 hF H locs ls hP hD hS hl
    unfold F_X7_hides_17 at hF
    refine lv_lstore_n (lv' := [(2, .long _), (0, .ref _), (1, .int _)]) hx hb dX7_hides_17 rfl hl (by decide) rfl (fun ls hl => ?_)
    refine lv_aload_n hx hb dX7_hides_18 rfl (lv_at hl 1 rfl) ?_
    refine lv_iload_n hx hb dX7_hides_19 rfl (lv_at hl 2 rfl) ?_
    refine lv_iconst (v := 0) hx hb dX7_hides_20 (by decide) ?_
    obtain ⟨r3, u2, e4, hF⟩ := bdI_some hF
    refine MM.callVi (m_X7_its e4) k_X7_68 S emOK hEs hK ⟨by decide, by decide⟩ (va_recv hK hP rfl c_MO) rfl rfl hl.1 (Nat.le_of_ble_eq_true rfl) dX7_hides_21 ⟨Nat.le_refl _, Nat.le_refl _⟩ hP hD hS (fun H locs hP hD hS => ?_)
    refine lv_istore (lv' := [(4, .int _), (2, .long _), (0, .ref _), (1, .int _)]) hx hb dX7_hides_24 hl (by decide) rfl (fun ls hl => ?_)
    refine lv_lload_n hx hb dX7_hides_26 rfl (lv_at hl 1 rfl) ?_
    refine lv_iload hx hb dX7_hides_27 (lv_at hl 0 rfl) ?_
    refine lv_iconst (v := 1) hx hb dX7_hides_29 (by decide) ?_
    refine lv_icmp_eq (tgt := 39) hx hb dX7_hides_30 (by decide) (fun c5 => ?_) (fun c5 => ?_)
    · have hF := ite_t hF c5
      exact b39 _ _ _  hF H locs ls hP hD hS (lv_sub hl [0] rfl)
    · have hF := ite_f hF c5
      refine lv_iload hx hb dX7_hides_33 (lv_at hl 0 rfl) ?_
      refine lv_iconst (v := 5) hx hb dX7_hides_35 (by decide) ?_
      refine lv_icmp_ne (tgt := 45) hx hb dX7_hides_36 (by decide) (fun c6 => ?_) (fun c6 => ?_)
      · have hF := ite_f hF c6
        refine lv_lconst (v := 0) hx hb dX7_hides_45 (by decide) ?_
        exact b46 _ _ _ _  hF H locs ls hP hD hS (lv_sub hl [0] rfl)
      · have hF := ite_t hF c6
        exact b39 _ _ _  hF H locs ls hP hD hS (lv_sub hl [0] rfl)
  unfold F_X7_hides at hF
  have b_main : BW p l e s m below meth c 1 22 [.ref (a 0), .int x1] D (AM a) (some (.long r)) (wlM cc a u') 5 (wlM cc a u) 0 [(0, .ref (a 0)), (1, .int x1)] [] := by
    intro H locs ls hP hD hS hl
    refine lv_aload_n hx hb dX7_hides_0 rfl (lv_at hl 0 rfl) ?_
    refine lv_iload_n hx hb dX7_hides_1 rfl (lv_at hl 1 rfl) ?_
    refine lv_iconst (v := 3) hx hb dX7_hides_2 (by decide) ?_
    obtain ⟨r8, u7, e9, hF⟩ := bdI_some hF
    refine MM.callVi (m_X7_its e9) k_X7_68 S emOK hEs hK ⟨by decide, by decide⟩ (va_recv hK hP rfl c_MO) rfl rfl hl.1 (Nat.le_of_ble_eq_true rfl) dX7_hides_3 ⟨Nat.le_refl _, Nat.le_refl _⟩ hP hD hS (fun H locs hP hD hS => ?_)
    refine lv_iconst (v := 1) hx hb dX7_hides_6 (by decide) ?_
    refine lv_icmp_ne (tgt := 14) hx hb dX7_hides_7 (by decide) (fun c10 => ?_) (fun c10 => ?_)
    · have hF := ite_f hF c10
      refine lv_ldc2 hx hb hown (hts _ q1005) dX7_hides_14 ?_
      exact b17 _ _ _  hF H locs ls hP hD hS (lv_sub hl [0, 1] rfl)
    · have hF := ite_t hF c10
      refine lv_lconst (v := 0) hx hb dX7_hides_10 (by decide) ?_
      refine lv_goto (tgt := 17) hx hb dX7_hides_11 (by decide) ?_
      exact b17 _ _ _  hF H locs ls hP hD hS (lv_sub hl [0, 1] rfl)
  have hl := lv_entry ([.ref (a 0), .int x1]) (n := 5) (Nat.le_of_ble_eq_true rfl)
  rw [lg_entry_eq]
  generalize (lg_sl ([.ref (a 0), .int x1]) ++ List.replicate (5 - (lg_sl ([.ref (a 0), .int x1])).length) Slot.unset).toArray = ls at hl ⊢
  exact b_main _ _ _ hP hD hS hl

set_option maxRecDepth 100000 in
set_option maxHeartbeats 4000000 in
theorem m_X7_shows  {x1 : Int32} {u u' : Mem} {r : Int64}  (hF : F_X7_shows  u x1 = some (r, u')) : MR l D cc a yX7_shows cX7_shows 2 (some .long) 2 46 [.ref (a 0), .int x1] u (some (.long r)) u' := by
  refine MM.ofW (by decide) (fun p e s m below meth c S hr hlocks hK hEs hP hD hS => ?_)
  have S : CallFix p m c cX7_shows 2 s _ gtbl RX7 := S
  obtain ⟨hx, hb, hml, hown, hts⟩ := id S
  unfold F_X7_shows at hF
  have b_main : BW p l e s m below meth c 2 46 [.ref (a 0), .int x1] D (AM a) (some (.long r)) (wlM cc a u') 2 (wlM cc a u) 0 [(0, .ref (a 0)), (1, .int x1)] [] := by
    intro H locs ls hP hD hS hl
    refine lv_aload_n hx hb dX7_shows_0 rfl (lv_at hl 0 rfl) ?_
    refine va_get_w S hK hP _ c_MO rfl igX7 1 (by decide) q880 rfl rfl dX7_shows_1 ?_
    refine lv_iload_n hx hb dX7_shows_4 rfl (lv_at hl 1 rfl) ?_
    obtain ⟨hin1, hF⟩ := gd_some hF
    refine mLald S hK hP ⟨rfl, by decide⟩ rfl hin1 dX7_shows_5 ?_
    refine lv_aload_n hx hb dX7_shows_6 rfl (lv_at hl 0 rfl) ?_
    refine lv_iload_n hx hb dX7_shows_7 rfl (lv_at hl 1 rfl) ?_
    obtain ⟨r3, u2, e4, hF⟩ := bdL_some hF
    refine MM.callVl (m_X7_hides e4) k_X7_78 S emOK hEs hK ⟨by decide, by decide⟩ (va_recv hK hP rfl c_MO) rfl rfl hl.1 (Nat.le_of_ble_eq_true rfl) dX7_shows_8 ⟨Nat.le_refl _, Nat.le_refl _⟩ hP hD hS (fun H locs hP hD hS => ?_)
    refine lv_ldc2 hx hb hown (hts _ q1008) dX7_shows_11 ?_
    refine lv_lxor hx hb dX7_shows_14 ?_
    refine lv_land hx hb dX7_shows_15 ?_
    obtain ⟨rfl, rfl⟩ := sp_eq hF
    exact retL S hr hlocks hP hD hS dX7_shows_16
  have hl := lv_entry ([.ref (a 0), .int x1]) (n := 2) (Nat.le_of_ble_eq_true rfl)
  rw [lg_entry_eq]
  generalize (lg_sl ([.ref (a 0), .int x1]) ++ List.replicate (2 - (lg_sl ([.ref (a 0), .int x1])).length) Slot.unset).toArray = ls at hl ⊢
  exact b_main _ _ _ hP hD hS hl

set_option maxRecDepth 100000 in
set_option maxHeartbeats 4000000 in
theorem m_X7_many  {x0 : Int64} {u u' : Mem} {r : Int32}  (hF : F_X7_many  u x0 = some (r, u')) : MR l D cc a yX7_many cX7_many 5 (some .int) 0 0 [.long x0] u (some (.int r)) u' := by
  refine MM.ofW (by decide) (fun p e s m below meth c S hr hlocks hK hEs hP hD hS => ?_)
  have S : CallFix p m c cX7_many 5 s _ gtbl RX7 := S
  obtain ⟨hx, hb, hml, hown, hts⟩ := id S
  have b4 : ∀ (n : Nat) (u : Mem) (v2 : Int32) (v3 : Int64) , F_X7_many_4  n u v2 v3 = some (r, u') → BW p l e s m below meth c 0 0 [.long x0] D (AM a) (some (.int r)) (wlM cc a u') 5 (wlM cc a u) 4 [(2, .int v2), (3, .long v3)] [] := by
    intro n
    induction n with
    | zero => intro u v2 v3 hF; cases hF
    | succ n ih =>
      intro u v2 v3 hF H locs ls hP hD hS hl
      unfold F_X7_many_4 at hF
      refine lv_lload_n hx hb dX7_many_4 rfl (lv_at hl 1 rfl) ?_
      refine lv_lconst (v := 0) hx hb dX7_many_5 (by decide) ?_
      refine W.lcmp hx hb dX7_many_6 ?_
      refine lv_if_eq (tgt := 22) hx hb dX7_many_7 (by decide) (fun c1 => ?_) (fun c1 => ?_)
      · have hF := ite_t hF c1
        refine lv_iload_n hx hb dX7_many_22 rfl (lv_at hl 0 rfl) ?_
        obtain ⟨rfl, rfl⟩ := sp_eq hF
        exact retI S hr hlocks hP hD hS dX7_many_23
      · have hF := ite_f hF c1
        refine lv_inc1 (k := 0) (lv' := [(2, .int _), (3, .long _)]) hx hb dX7_many_10 hl rfl (by decide) rfl (fun ls hl => ?_)
        refine lv_lload_n hx hb dX7_many_13 rfl (lv_at hl 1 rfl) ?_
        refine lv_lload_n hx hb dX7_many_14 rfl (lv_at hl 1 rfl) ?_
        refine lv_lconst (v := 1) hx hb dX7_many_15 (by decide) ?_
        refine lv_lsub hx hb dX7_many_16 ?_
        refine lv_land hx hb dX7_many_17 ?_
        refine lv_lstore_n (lv' := [(3, .long _), (2, .int _)]) hx hb dX7_many_18 rfl hl (by decide) rfl (fun ls hl => ?_)
        refine lv_goto (tgt := 4) hx hb dX7_many_19 (by decide) ?_
        exact ih _ _ _  hF H locs ls hP hD hS (lv_sub hl [1, 0] rfl)
  unfold F_X7_many at hF
  have b_main : BW p l e s m below meth c 0 0 [.long x0] D (AM a) (some (.int r)) (wlM cc a u') 5 (wlM cc a u) 0 [(0, .long x0)] [] := by
    intro H locs ls hP hD hS hl
    refine lv_iconst (v := 0) hx hb dX7_many_0 (by decide) ?_
    refine lv_istore_n (lv' := [(2, .int _), (0, .long _)]) hx hb dX7_many_1 rfl hl (by decide) rfl (fun ls hl => ?_)
    refine lv_lload_n hx hb dX7_many_2 rfl (lv_at hl 1 rfl) ?_
    refine lv_lstore_n (lv' := [(3, .long _), (2, .int _), (0, .long _)]) hx hb dX7_many_3 rfl hl (by decide) rfl (fun ls hl => ?_)
    exact b4 _ _ _ _  hF H locs ls hP hD hS (lv_sub hl [1, 0] rfl)
  have hl := lv_entry ([.long x0]) (n := 5) (Nat.le_of_ble_eq_true rfl)
  rw [lg_entry_eq]
  generalize (lg_sl ([.long x0]) ++ List.replicate (5 - (lg_sl ([.long x0])).length) Slot.unset).toArray = ls at hl ⊢
  exact b_main _ _ _ hP hD hS hl

set_option maxRecDepth 100000 in
set_option maxHeartbeats 4000000 in
theorem m_X7_of  {x1 : Int32} {x2 : Int32} {u u' : Mem} {r : Int32}  (hF : F_X7_of  u x1 x2 = some (r, u')) : MR l D cc a yX7_of cX7_of 3 (some .int) 3 67 [.ref (a 0), .int x1, .int x2] u (some (.int r)) u' := by
  refine MM.ofW (by decide) (fun p e s m below meth c S hr hlocks hK hEs hP hD hS => ?_)
  have S : CallFix p m c cX7_of 3 s _ gtbl RX7 := S
  obtain ⟨hx, hb, hml, hown, hts⟩ := id S
  have b17 : ∀  (u : Mem)  , F_X7_of_17  u  = some (r, u') → BW p l e s m below meth c 3 67 [.ref (a 0), .int x1, .int x2] D (AM a) (some (.int r)) (wlM cc a u') 3 (wlM cc a u) 17 [(0, .ref (a 0))] [] := by
    intro  u  hF H locs ls hP hD hS hl
    unfold F_X7_of_17 at hF
    refine lv_aload_n hx hb dX7_of_17 rfl (lv_at hl 0 rfl) ?_
    refine lv_ldc hx hb hown (hts _ q966) dX7_of_18 ?_
    obtain ⟨r2, u1, e3, hF⟩ := bdI_some hF
    refine MM.callVi (m_X7_finds e3) k_X7_94 S emOK hEs hK ⟨by decide, by decide⟩ (va_recv hK hP rfl c_MO) rfl rfl hl.1 (Nat.le_of_ble_eq_true rfl) dX7_of_20 ⟨Nat.le_refl _, Nat.le_refl _⟩ hP hD hS (fun H locs hP hD hS => ?_)
    obtain ⟨rfl, rfl⟩ := sp_eq hF
    exact retI S hr hlocks hP hD hS dX7_of_23
  have b59 : ∀  (u : Mem) (y0 : Int32) , F_X7_of_59  u y0 = some (r, u') → BW p l e s m below meth c 3 67 [.ref (a 0), .int x1, .int x2] D (AM a) (some (.int r)) (wlM cc a u') 3 (wlM cc a u) 59 [] [.int y0] := by
    intro  u y0 hF H locs ls hP hD hS hl
    unfold F_X7_of_59 at hF
    obtain ⟨rfl, rfl⟩ := sp_eq hF
    exact retI S hr hlocks hP hD hS dX7_of_59
  unfold F_X7_of at hF
  have b_main : BW p l e s m below meth c 3 67 [.ref (a 0), .int x1, .int x2] D (AM a) (some (.int r)) (wlM cc a u') 3 (wlM cc a u) 0 [(0, .ref (a 0)), (1, .int x1), (2, .int x2)] [] := by
    intro H locs ls hP hD hS hl
    refine lv_aload_n hx hb dX7_of_0 rfl (lv_at hl 0 rfl) ?_
    refine lv_iload_n hx hb dX7_of_1 rfl (lv_at hl 1 rfl) ?_
    obtain ⟨r5, u4, e6, hF⟩ := bdI_some hF
    refine MM.callVi (m_X7_isPrint e6) k_X7_103 S emOK hEs hK ⟨by decide, by decide⟩ (va_recv hK hP rfl c_MO) rfl rfl hl.1 (Nat.le_of_ble_eq_true rfl) dX7_of_2 ⟨Nat.le_refl _, Nat.le_refl _⟩ hP hD hS (fun H locs hP hD hS => ?_)
    refine lv_if_eq (tgt := 17) hx hb dX7_of_5 (by decide) (fun c7 => ?_) (fun c7 => ?_)
    · have hF := ite_t hF c7
      exact b17 _  hF H locs ls hP hD hS (lv_sub hl [0] rfl)
    · have hF := ite_f hF c7
      refine lv_iload_n hx hb dX7_of_8 rfl (lv_at hl 2 rfl) ?_
      refine lv_iconst (v := 0) hx hb dX7_of_9 (by decide) ?_
      refine lv_iconst (v := 5) hx hb dX7_of_10 (by decide) ?_
      obtain ⟨r9, u8, e10, hF⟩ := bdI_some hF
      refine MM.callSi (m_X7_in e10) k_X7_64 S emOK hEs hK ⟨by decide, by decide⟩ rfl rfl hl.1 (Nat.le_of_ble_eq_true rfl) dX7_of_11 ⟨Nat.le_refl _, Nat.le_refl _⟩ hP hD hS (fun H locs hP hD hS => ?_)
      refine lv_if_ne (tgt := 24) hx hb dX7_of_14 (by decide) (fun c11 => ?_) (fun c11 => ?_)
      · have hF := ite_f hF c11
        refine lv_iload_n hx hb dX7_of_24 rfl (lv_at hl 2 rfl) ?_
        refine lv_iconst (v := 4) hx hb dX7_of_25 (by decide) ?_
        refine lv_icmp_ge (tgt := 38) hx hb dX7_of_26 (by decide) (fun c12 => ?_) (fun c12 => ?_)
        · have hF := ite_t hF c12
          refine lv_iload_n hx hb dX7_of_38 rfl (lv_at hl 2 rfl) ?_
          refine lv_iconst (v := 4) hx hb dX7_of_39 (by decide) ?_
          refine lv_icmp_ne (tgt := 51) hx hb dX7_of_40 (by decide) (fun c13 => ?_) (fun c13 => ?_)
          · have hF := ite_f hF c13
            refine lv_aload_n hx hb dX7_of_51 rfl (lv_at hl 0 rfl) ?_
            refine lv_iload_n hx hb dX7_of_52 rfl (lv_at hl 1 rfl) ?_
            obtain ⟨r15, u14, e16, hF⟩ := bdL_some hF
            refine MM.callVl (m_X7_shows e16) k_X7_109 S emOK hEs hK ⟨by decide, by decide⟩ (va_recv hK hP rfl c_MO) rfl rfl hl.1 (Nat.le_of_ble_eq_true rfl) dX7_of_53 ⟨Nat.le_refl _, Nat.le_refl _⟩ hP hD hS (fun H locs hP hD hS => ?_)
            obtain ⟨r18, u17, e19, hF⟩ := bdI_some hF
            refine MM.callSi (m_X7_many e19) k_X7_112 S emOK hEs hK ⟨by decide, by decide⟩ rfl rfl hl.1 (Nat.le_of_ble_eq_true rfl) dX7_of_56 ⟨Nat.le_refl _, Nat.le_refl _⟩ hP hD hS (fun H locs hP hD hS => ?_)
            exact b59 _ _  hF H locs ls hP hD hS (lv_sub hl [] rfl)
          · have hF := ite_t hF c13
            refine lv_aload_n hx hb dX7_of_43 rfl (lv_at hl 0 rfl) ?_
            refine lv_iload_n hx hb dX7_of_44 rfl (lv_at hl 1 rfl) ?_
            obtain ⟨r21, u20, e22, hF⟩ := bdI_some hF
            refine MM.callVi (m_X7_trueWidth e22) k_X7_106 S emOK hEs hK ⟨by decide, by decide⟩ (va_recv hK hP rfl c_MO) rfl rfl hl.1 (Nat.le_of_ble_eq_true rfl) dX7_of_45 ⟨Nat.le_refl _, Nat.le_refl _⟩ hP hD hS (fun H locs hP hD hS => ?_)
            refine lv_goto (tgt := 59) hx hb dX7_of_48 (by decide) ?_
            exact b59 _ _  hF H locs ls hP hD hS (lv_sub hl [] rfl)
        · have hF := ite_f hF c12
          refine lv_aload_n hx hb dX7_of_29 rfl (lv_at hl 0 rfl) ?_
          refine lv_iload_n hx hb dX7_of_30 rfl (lv_at hl 1 rfl) ?_
          refine lv_iload_n hx hb dX7_of_31 rfl (lv_at hl 2 rfl) ?_
          obtain ⟨r24, u23, e25, hF⟩ := bdI_some hF
          refine MM.callVi (m_X7_its e25) k_X7_68 S emOK hEs hK ⟨by decide, by decide⟩ (va_recv hK hP rfl c_MO) rfl rfl hl.1 (Nat.le_of_ble_eq_true rfl) dX7_of_32 ⟨Nat.le_refl _, Nat.le_refl _⟩ hP hD hS (fun H locs hP hD hS => ?_)
          refine lv_goto (tgt := 59) hx hb dX7_of_35 (by decide) ?_
          exact b59 _ _  hF H locs ls hP hD hS (lv_sub hl [] rfl)
      · have hF := ite_t hF c11
        exact b17 _  hF H locs ls hP hD hS (lv_sub hl [0] rfl)
  have hl := lv_entry ([.ref (a 0), .int x1, .int x2]) (n := 3) (Nat.le_of_ble_eq_true rfl)
  rw [lg_entry_eq]
  generalize (lg_sl ([.ref (a 0), .int x1, .int x2]) ++ List.replicate (3 - (lg_sl ([.ref (a 0), .int x1, .int x2])).length) Slot.unset).toArray = ls at hl ⊢
  exact b_main _ _ _ hP hD hS hl

set_option maxRecDepth 100000 in
set_option maxHeartbeats 4000000 in
theorem m_X7_marks  {x1 : Int32} {x2 : Int32} {u u' : Mem} {r : Int64}  (hF : F_X7_marks  u x1 x2 = some (r, u')) : MR l D cc a yX7_marks cX7_marks 3 (some .long) 3 67 [.ref (a 0), .int x1, .int x2] u (some (.long r)) u' := by
  refine MM.ofW (by decide) (fun p e s m below meth c S hr hlocks hK hEs hP hD hS => ?_)
  have S : CallFix p m c cX7_marks 3 s _ gtbl RX7 := S
  obtain ⟨hx, hb, hml, hown, hts⟩ := id S
  have b17 : ∀  (u : Mem)  , F_X7_marks_17  u  = some (r, u') → BW p l e s m below meth c 3 67 [.ref (a 0), .int x1, .int x2] D (AM a) (some (.long r)) (wlM cc a u') 3 (wlM cc a u) 17 [(0, .ref (a 0))] [] := by
    intro  u  hF H locs ls hP hD hS hl
    unfold F_X7_marks_17 at hF
    refine lv_aload_n hx hb dX7_marks_17 rfl (lv_at hl 0 rfl) ?_
    refine lv_ldc hx hb hown (hts _ q966) dX7_marks_18 ?_
    obtain ⟨r2, u1, e3, hF⟩ := bdI_some hF
    refine MM.callVi (m_X7_finds e3) k_X7_94 S emOK hEs hK ⟨by decide, by decide⟩ (va_recv hK hP rfl c_MO) rfl rfl hl.1 (Nat.le_of_ble_eq_true rfl) dX7_marks_20 ⟨Nat.le_refl _, Nat.le_refl _⟩ hP hD hS (fun H locs hP hD hS => ?_)
    refine lv_i2l hx hb dX7_marks_23 rfl ?_
    obtain ⟨rfl, rfl⟩ := sp_eq hF
    exact retL S hr hlocks hP hD hS dX7_marks_24
  have b56 : ∀  (u : Mem) (y0 : Int64) , F_X7_marks_56  u y0 = some (r, u') → BW p l e s m below meth c 3 67 [.ref (a 0), .int x1, .int x2] D (AM a) (some (.long r)) (wlM cc a u') 3 (wlM cc a u) 56 [] [.long y0] := by
    intro  u y0 hF H locs ls hP hD hS hl
    unfold F_X7_marks_56 at hF
    obtain ⟨rfl, rfl⟩ := sp_eq hF
    exact retL S hr hlocks hP hD hS dX7_marks_56
  unfold F_X7_marks at hF
  have b_main : BW p l e s m below meth c 3 67 [.ref (a 0), .int x1, .int x2] D (AM a) (some (.long r)) (wlM cc a u') 3 (wlM cc a u) 0 [(0, .ref (a 0)), (1, .int x1), (2, .int x2)] [] := by
    intro H locs ls hP hD hS hl
    refine lv_aload_n hx hb dX7_marks_0 rfl (lv_at hl 0 rfl) ?_
    refine lv_iload_n hx hb dX7_marks_1 rfl (lv_at hl 1 rfl) ?_
    obtain ⟨r5, u4, e6, hF⟩ := bdI_some hF
    refine MM.callVi (m_X7_isPrint e6) k_X7_103 S emOK hEs hK ⟨by decide, by decide⟩ (va_recv hK hP rfl c_MO) rfl rfl hl.1 (Nat.le_of_ble_eq_true rfl) dX7_marks_2 ⟨Nat.le_refl _, Nat.le_refl _⟩ hP hD hS (fun H locs hP hD hS => ?_)
    refine lv_if_eq (tgt := 17) hx hb dX7_marks_5 (by decide) (fun c7 => ?_) (fun c7 => ?_)
    · have hF := ite_t hF c7
      exact b17 _  hF H locs ls hP hD hS (lv_sub hl [0] rfl)
    · have hF := ite_f hF c7
      refine lv_iload_n hx hb dX7_marks_8 rfl (lv_at hl 2 rfl) ?_
      refine lv_iconst (v := 0) hx hb dX7_marks_9 (by decide) ?_
      refine lv_iconst (v := 2) hx hb dX7_marks_10 (by decide) ?_
      obtain ⟨r9, u8, e10, hF⟩ := bdI_some hF
      refine MM.callSi (m_X7_in e10) k_X7_64 S emOK hEs hK ⟨by decide, by decide⟩ rfl rfl hl.1 (Nat.le_of_ble_eq_true rfl) dX7_marks_11 ⟨Nat.le_refl _, Nat.le_refl _⟩ hP hD hS (fun H locs hP hD hS => ?_)
      refine lv_if_ne (tgt := 25) hx hb dX7_marks_14 (by decide) (fun c11 => ?_) (fun c11 => ?_)
      · have hF := ite_f hF c11
        refine lv_iload_n hx hb dX7_marks_25 rfl (lv_at hl 2 rfl) ?_
        refine lv_if_ne (tgt := 38) hx hb dX7_marks_26 (by decide) (fun c12 => ?_) (fun c12 => ?_)
        · have hF := ite_f hF c12
          refine lv_iload_n hx hb dX7_marks_38 rfl (lv_at hl 2 rfl) ?_
          refine lv_iconst (v := 1) hx hb dX7_marks_39 (by decide) ?_
          refine lv_icmp_ne (tgt := 51) hx hb dX7_marks_40 (by decide) (fun c13 => ?_) (fun c13 => ?_)
          · have hF := ite_f hF c13
            refine lv_aload_n hx hb dX7_marks_51 rfl (lv_at hl 0 rfl) ?_
            refine lv_iload_n hx hb dX7_marks_52 rfl (lv_at hl 1 rfl) ?_
            obtain ⟨r15, u14, e16, hF⟩ := bdL_some hF
            refine MM.callVl (m_X7_hides e16) k_X7_78 S emOK hEs hK ⟨by decide, by decide⟩ (va_recv hK hP rfl c_MO) rfl rfl hl.1 (Nat.le_of_ble_eq_true rfl) dX7_marks_53 ⟨Nat.le_refl _, Nat.le_refl _⟩ hP hD hS (fun H locs hP hD hS => ?_)
            exact b56 _ _  hF H locs ls hP hD hS (lv_sub hl [] rfl)
          · have hF := ite_t hF c13
            refine lv_aload_n hx hb dX7_marks_43 rfl (lv_at hl 0 rfl) ?_
            refine lv_iload_n hx hb dX7_marks_44 rfl (lv_at hl 1 rfl) ?_
            obtain ⟨r18, u17, e19, hF⟩ := bdL_some hF
            refine MM.callVl (m_X7_shows e19) k_X7_109 S emOK hEs hK ⟨by decide, by decide⟩ (va_recv hK hP rfl c_MO) rfl rfl hl.1 (Nat.le_of_ble_eq_true rfl) dX7_marks_45 ⟨Nat.le_refl _, Nat.le_refl _⟩ hP hD hS (fun H locs hP hD hS => ?_)
            refine lv_goto (tgt := 56) hx hb dX7_marks_48 (by decide) ?_
            exact b56 _ _  hF H locs ls hP hD hS (lv_sub hl [] rfl)
        · have hF := ite_t hF c12
          refine lv_aload_n hx hb dX7_marks_29 rfl (lv_at hl 0 rfl) ?_
          refine va_get_w S hK hP _ c_MO rfl igX7 1 (by decide) q880 rfl rfl dX7_marks_30 ?_
          refine lv_iload_n hx hb dX7_marks_33 rfl (lv_at hl 1 rfl) ?_
          obtain ⟨hin20, hF⟩ := gd_some hF
          refine mLald S hK hP ⟨rfl, by decide⟩ rfl hin20 dX7_marks_34 ?_
          refine lv_goto (tgt := 56) hx hb dX7_marks_35 (by decide) ?_
          exact b56 _ _  hF H locs ls hP hD hS (lv_sub hl [] rfl)
      · have hF := ite_t hF c11
        exact b17 _  hF H locs ls hP hD hS (lv_sub hl [0] rfl)
  have hl := lv_entry ([.ref (a 0), .int x1, .int x2]) (n := 3) (Nat.le_of_ble_eq_true rfl)
  rw [lg_entry_eq]
  generalize (lg_sl ([.ref (a 0), .int x1, .int x2]) ++ List.replicate (3 - (lg_sl ([.ref (a 0), .int x1, .int x2])).length) Slot.unset).toArray = ls at hl ⊢
  exact b_main _ _ _ hP hD hS hl

set_option maxRecDepth 100000 in
set_option maxHeartbeats 4000000 in
theorem m_X7_isTold  {x0 : Int32} {x1 : Int32} {u u' : Mem} {r : Int32}  (hF : F_X7_isTold  u x0 x1 = some (r, u')) : MR l D cc a yX7_isTold cX7_isTold 2 (some .boolean) 1 22 [.int x0, .int x1] u (some (.int r)) u' := by
  refine MM.ofW (by decide) (fun p e s m below meth c S hr hlocks hK hEs hP hD hS => ?_)
  have S : CallFix p m c cX7_isTold 2 s _ gtbl RX7 := S
  obtain ⟨hx, hb, hml, hown, hts⟩ := id S
  have b37 : ∀  (u : Mem) (y0 : Int32) , F_X7_isTold_37  u y0 = some (r, u') → BW p l e s m below meth c 1 22 [.int x0, .int x1] D (AM a) (some (.int r)) (wlM cc a u') 2 (wlM cc a u) 37 [] [.int y0] := by
    intro  u y0 hF H locs ls hP hD hS hl
    unfold F_X7_isTold_37 at hF
    obtain ⟨hz1, hF⟩ := gz_some hF
    obtain ⟨rfl, rfl⟩ := sp_eq hF
    exact retZ S hr hlocks hP hD hS hz1 dX7_isTold_37
  have b36 : ∀  (u : Mem)  , F_X7_isTold_36  u  = some (r, u') → BW p l e s m below meth c 1 22 [.int x0, .int x1] D (AM a) (some (.int r)) (wlM cc a u') 2 (wlM cc a u) 36 [] [] := by
    intro  u  hF H locs ls hP hD hS hl
    unfold F_X7_isTold_36 at hF
    refine lv_iconst (v := 0) hx hb dX7_isTold_36 (by decide) ?_
    exact b37 _ _  hF H locs ls hP hD hS (lv_sub hl [] rfl)
  unfold F_X7_isTold at hF
  have b_main : BW p l e s m below meth c 1 22 [.int x0, .int x1] D (AM a) (some (.int r)) (wlM cc a u') 2 (wlM cc a u) 0 [(0, .int x0), (1, .int x1)] [] := by
    intro H locs ls hP hD hS hl
    refine lv_iload_n hx hb dX7_isTold_0 rfl (lv_at hl 0 rfl) ?_
    refine lv_iconst (v := 1) hx hb dX7_isTold_1 (by decide) ?_
    refine lv_icmp_ne (tgt := 16) hx hb dX7_isTold_2 (by decide) (fun c2 => ?_) (fun c2 => ?_)
    · have hF := ite_f hF c2
      refine lv_iload_n hx hb dX7_isTold_16 rfl (lv_at hl 0 rfl) ?_
      refine lv_iconst (v := 2) hx hb dX7_isTold_17 (by decide) ?_
      refine lv_icmp_ne (tgt := 36) hx hb dX7_isTold_18 (by decide) (fun c3 => ?_) (fun c3 => ?_)
      · have hF := ite_f hF c3
        exact b36 _  hF H locs ls hP hD hS (lv_sub hl [] rfl)
      · have hF := ite_t hF c3
        refine lv_iload_n hx hb dX7_isTold_21 rfl (lv_at hl 1 rfl) ?_
        refine lv_iconst (v := 0) hx hb dX7_isTold_22 (by decide) ?_
        refine lv_sipush (v := 2000) hx hb dX7_isTold_23 (by decide) ?_
        obtain ⟨r5, u4, e6, hF⟩ := bdI_some hF
        refine MM.callSi (m_X7_in e6) k_X7_64 S emOK hEs hK ⟨by decide, by decide⟩ rfl rfl hl.1 (Nat.le_of_ble_eq_true rfl) dX7_isTold_26 ⟨Nat.le_refl _, Nat.le_refl _⟩ hP hD hS (fun H locs hP hD hS => ?_)
        refine lv_if_eq (tgt := 36) hx hb dX7_isTold_29 (by decide) (fun c7 => ?_) (fun c7 => ?_)
        · have hF := ite_t hF c7
          exact b36 _  hF H locs ls hP hD hS (lv_sub hl [] rfl)
        · have hF := ite_f hF c7
          refine lv_iconst (v := 1) hx hb dX7_isTold_32 (by decide) ?_
          refine lv_goto (tgt := 37) hx hb dX7_isTold_33 (by decide) ?_
          exact b37 _ _  hF H locs ls hP hD hS (lv_sub hl [] rfl)
    · have hF := ite_t hF c2
      refine lv_iload_n hx hb dX7_isTold_5 rfl (lv_at hl 1 rfl) ?_
      refine lv_iconst (v := 1) hx hb dX7_isTold_6 (by decide) ?_
      refine lv_sipush (v := 9999) hx hb dX7_isTold_7 (by decide) ?_
      obtain ⟨r9, u8, e10, hF⟩ := bdI_some hF
      refine MM.callSi (m_X7_in e10) k_X7_64 S emOK hEs hK ⟨by decide, by decide⟩ rfl rfl hl.1 (Nat.le_of_ble_eq_true rfl) dX7_isTold_10 ⟨Nat.le_refl _, Nat.le_refl _⟩ hP hD hS (fun H locs hP hD hS => ?_)
      refine lv_goto (tgt := 37) hx hb dX7_isTold_13 (by decide) ?_
      exact b37 _ _  hF H locs ls hP hD hS (lv_sub hl [] rfl)
  have hl := lv_entry ([.int x0, .int x1]) (n := 2) (Nat.le_of_ble_eq_true rfl)
  rw [lg_entry_eq]
  generalize (lg_sl ([.int x0, .int x1]) ++ List.replicate (2 - (lg_sl ([.int x0, .int x1])).length) Slot.unset).toArray = ls at hl ⊢
  exact b_main _ _ _ hP hD hS hl

set_option maxRecDepth 100000 in
set_option maxHeartbeats 4000000 in
theorem m_X7_set  {x1 : Int32} {x2 : Int32} {x3 : Int32} {u u' : Mem} {r : Int32}  (hF : F_X7_set  u x1 x2 x3 = some (r, u')) : MR l D cc a yX7_set cX7_set 5 (some .int) 2 43 [.ref (a 0), .int x1, .int x2, .int x3] u (some (.int r)) u' := by
  refine MM.ofW (by decide) (fun p e s m below meth c S hr hlocks hK hEs hP hD hS => ?_)
  have S : CallFix p m c cX7_set 5 s _ gtbl RX7 := S
  obtain ⟨hx, hb, hml, hown, hts⟩ := id S
  have b16 : ∀  (u : Mem)  , F_X7_set_16  u  = some (r, u') → BW p l e s m below meth c 2 43 [.ref (a 0), .int x1, .int x2, .int x3] D (AM a) (some (.int r)) (wlM cc a u') 5 (wlM cc a u) 16 [(0, .ref (a 0))] [] := by
    intro  u  hF H locs ls hP hD hS hl
    unfold F_X7_set_16 at hF
    refine lv_aload_n hx hb dX7_set_16 rfl (lv_at hl 0 rfl) ?_
    refine lv_ldc hx hb hown (hts _ q966) dX7_set_17 ?_
    obtain ⟨r2, u1, e3, hF⟩ := bdI_some hF
    refine MM.callVi (m_X7_finds e3) k_X7_94 S emOK hEs hK ⟨by decide, by decide⟩ (va_recv hK hP rfl c_MO) rfl rfl hl.1 (Nat.le_of_ble_eq_true rfl) dX7_set_19 ⟨Nat.le_refl _, Nat.le_refl _⟩ hP hD hS (fun H locs hP hD hS => ?_)
    obtain ⟨rfl, rfl⟩ := sp_eq hF
    exact retI S hr hlocks hP hD hS dX7_set_22
  unfold F_X7_set at hF
  have b_main : BW p l e s m below meth c 2 43 [.ref (a 0), .int x1, .int x2, .int x3] D (AM a) (some (.int r)) (wlM cc a u') 5 (wlM cc a u) 0 [(0, .ref (a 0)), (1, .int x1), (2, .int x2), (3, .int x3)] [] := by
    intro H locs ls hP hD hS hl
    refine lv_aload_n hx hb dX7_set_0 rfl (lv_at hl 0 rfl) ?_
    refine lv_iload_n hx hb dX7_set_1 rfl (lv_at hl 1 rfl) ?_
    obtain ⟨r5, u4, e6, hF⟩ := bdI_some hF
    refine MM.callVi (m_X7_isPrint e6) k_X7_103 S emOK hEs hK ⟨by decide, by decide⟩ (va_recv hK hP rfl c_MO) rfl rfl hl.1 (Nat.le_of_ble_eq_true rfl) dX7_set_2 ⟨Nat.le_refl _, Nat.le_refl _⟩ hP hD hS (fun H locs hP hD hS => ?_)
    refine lv_if_eq (tgt := 16) hx hb dX7_set_5 (by decide) (fun c7 => ?_) (fun c7 => ?_)
    · have hF := ite_t hF c7
      exact b16 _  hF H locs ls hP hD hS (lv_sub hl [0] rfl)
    · have hF := ite_f hF c7
      refine lv_iload_n hx hb dX7_set_8 rfl (lv_at hl 2 rfl) ?_
      refine lv_iload_n hx hb dX7_set_9 rfl (lv_at hl 3 rfl) ?_
      obtain ⟨r9, u8, e10, hF⟩ := bdI_some hF
      refine MM.callSi (m_X7_isTold e10) k_X7_116 S emOK hEs hK ⟨by decide, by decide⟩ rfl rfl hl.1 (Nat.le_of_ble_eq_true rfl) dX7_set_10 ⟨Nat.le_refl _, Nat.le_refl _⟩ hP hD hS (fun H locs hP hD hS => ?_)
      refine lv_if_ne (tgt := 23) hx hb dX7_set_13 (by decide) (fun c11 => ?_) (fun c11 => ?_)
      · have hF := ite_f hF c11
        refine lv_aload_n hx hb dX7_set_23 rfl (lv_at hl 0 rfl) ?_
        refine lv_iload_n hx hb dX7_set_24 rfl (lv_at hl 1 rfl) ?_
        refine lv_iload_n hx hb dX7_set_25 rfl (lv_at hl 2 rfl) ?_
        obtain ⟨r13, u12, e14, hF⟩ := bdI_some hF
        refine MM.callVi (m_X7_its e14) k_X7_68 S emOK hEs hK ⟨by decide, by decide⟩ (va_recv hK hP rfl c_MO) rfl rfl hl.1 (Nat.le_of_ble_eq_true rfl) dX7_set_26 ⟨Nat.le_refl _, Nat.le_refl _⟩ hP hD hS (fun H locs hP hD hS => ?_)
        refine lv_istore (lv' := [(4, .int _), (0, .ref _), (1, .int _), (2, .int _), (3, .int _)]) hx hb dX7_set_29 hl (by decide) rfl (fun ls hl => ?_)
        refine lv_aload_n hx hb dX7_set_31 rfl (lv_at hl 1 rfl) ?_
        refine lv_iload_n hx hb dX7_set_32 rfl (lv_at hl 2 rfl) ?_
        refine lv_iload_n hx hb dX7_set_33 rfl (lv_at hl 3 rfl) ?_
        refine lv_iload_n hx hb dX7_set_34 rfl (lv_at hl 4 rfl) ?_
        obtain ⟨u15, e17, hF⟩ := bdV_some hF
        refine MM.callVv (m_X7_sets e17) k_X7_86 S emOK hEs hK ⟨by decide, by decide⟩ (va_recv hK hP rfl c_MO) rfl rfl hl.1 (Nat.le_of_ble_eq_true rfl) dX7_set_35 ⟨Nat.le_refl _, Nat.le_refl _⟩ hP hD hS (fun H locs hP hD hS => ?_)
        refine lv_iload hx hb dX7_set_38 (lv_at hl 0 rfl) ?_
        obtain ⟨rfl, rfl⟩ := sp_eq hF
        exact retI S hr hlocks hP hD hS dX7_set_40
      · have hF := ite_t hF c11
        exact b16 _  hF H locs ls hP hD hS (lv_sub hl [0] rfl)
  have hl := lv_entry ([.ref (a 0), .int x1, .int x2, .int x3]) (n := 5) (Nat.le_of_ble_eq_true rfl)
  rw [lg_entry_eq]
  generalize (lg_sl ([.ref (a 0), .int x1, .int x2, .int x3]) ++ List.replicate (5 - (lg_sl ([.ref (a 0), .int x1, .int x2, .int x3])).length) Slot.unset).toArray = ls at hl ⊢
  exact b_main _ _ _ hP hD hS hl

set_option maxRecDepth 100000 in
set_option maxHeartbeats 4000000 in
theorem m_X7_scratch  {x1 : Int32} {x2 : Int32} {x3 : Int32} {u u' : Mem} {r : Int32}  (hF : F_X7_scratch  u x1 x2 x3 = some (r, u')) : MR l D cc a yX7_scratch cX7_scratch 6 (some .int) 2 43 [.ref (a 0), .int x1, .int x2, .int x3] u (some (.int r)) u' := by
  refine MM.ofW (by decide) (fun p e s m below meth c S hr hlocks hK hEs hP hD hS => ?_)
  have S : CallFix p m c cX7_scratch 6 s _ gtbl RX7 := S
  obtain ⟨hx, hb, hml, hown, hts⟩ := id S
  have b18 : ∀  (u : Mem)  , F_X7_scratch_18  u  = some (r, u') → BW p l e s m below meth c 2 43 [.ref (a 0), .int x1, .int x2, .int x3] D (AM a) (some (.int r)) (wlM cc a u') 6 (wlM cc a u) 18 [(0, .ref (a 0))] [] := by
    intro  u  hF H locs ls hP hD hS hl
    unfold F_X7_scratch_18 at hF
    refine lv_aload_n hx hb dX7_scratch_18 rfl (lv_at hl 0 rfl) ?_
    refine lv_ldc hx hb hown (hts _ q966) dX7_scratch_19 ?_
    obtain ⟨r2, u1, e3, hF⟩ := bdI_some hF
    refine MM.callVi (m_X7_finds e3) k_X7_94 S emOK hEs hK ⟨by decide, by decide⟩ (va_recv hK hP rfl c_MO) rfl rfl hl.1 (Nat.le_of_ble_eq_true rfl) dX7_scratch_21 ⟨Nat.le_refl _, Nat.le_refl _⟩ hP hD hS (fun H locs hP hD hS => ?_)
    obtain ⟨rfl, rfl⟩ := sp_eq hF
    exact retI S hr hlocks hP hD hS dX7_scratch_24
  have b79 : ∀  (u : Mem) (y0 : Int32) , F_X7_scratch_79  u y0 = some (r, u') → BW p l e s m below meth c 2 43 [.ref (a 0), .int x1, .int x2, .int x3] D (AM a) (some (.int r)) (wlM cc a u') 6 (wlM cc a u) 79 [] [.int y0] := by
    intro  u y0 hF H locs ls hP hD hS hl
    unfold F_X7_scratch_79 at hF
    obtain ⟨rfl, rfl⟩ := sp_eq hF
    exact retI S hr hlocks hP hD hS dX7_scratch_79
  have b61 : ∀  (u : Mem) (v1 : Int32) (v4 : Int64) (y1 : Int32) (y2 : Int64) , F_X7_scratch_61  u v1 v4 y1 y2 = some (r, u') → BW p l e s m below meth c 2 43 [.ref (a 0), .int x1, .int x2, .int x3] D (AM a) (some (.int r)) (wlM cc a u') 6 (wlM cc a u) 61 [(0, .ref (a 0)), (1, .int v1), (4, .long v4)] [.long y2, .int y1, .ref (a 2)] := by
    intro  u v1 v4 y1 y2 hF H locs ls hP hD hS hl
    unfold F_X7_scratch_61 at hF
    obtain ⟨hin4, hF⟩ := gd_some hF
    refine mLast S hK hP hD hS ⟨rfl, by decide⟩ rfl hin4 dX7_scratch_61 (fun H locs hP hD hS => ?_)
    refine lv_aload_n hx hb dX7_scratch_62 rfl (lv_at hl 0 rfl) ?_
    refine va_get_w S hK hP _ c_MO rfl igX7 1 (by decide) q880 rfl rfl dX7_scratch_63 ?_
    refine lv_iload_n hx hb dX7_scratch_66 rfl (lv_at hl 1 rfl) ?_
    obtain ⟨hin5, hF⟩ := gd_some hF
    refine mLald S hK hP ⟨rfl, by decide⟩ rfl hin5 dX7_scratch_67 ?_
    refine lv_lload hx hb dX7_scratch_68 (lv_at hl 2 rfl) ?_
    refine W.lcmp hx hb dX7_scratch_70 ?_
    refine lv_if_ne (tgt := 78) hx hb dX7_scratch_71 (by decide) (fun c6 => ?_) (fun c6 => ?_)
    · have hF := ite_f hF c6
      refine lv_iconst (v := 1) hx hb dX7_scratch_78 (by decide) ?_
      exact b79 _ _  hF H locs ls hP hD hS (lv_sub hl [] rfl)
    · have hF := ite_t hF c6
      refine lv_iconst (v := 0) hx hb dX7_scratch_74 (by decide) ?_
      refine lv_goto (tgt := 79) hx hb dX7_scratch_75 (by decide) ?_
      exact b79 _ _  hF H locs ls hP hD hS (lv_sub hl [] rfl)
  unfold F_X7_scratch at hF
  have b_main : BW p l e s m below meth c 2 43 [.ref (a 0), .int x1, .int x2, .int x3] D (AM a) (some (.int r)) (wlM cc a u') 6 (wlM cc a u) 0 [(0, .ref (a 0)), (1, .int x1), (2, .int x2), (3, .int x3)] [] := by
    intro H locs ls hP hD hS hl
    refine lv_aload_n hx hb dX7_scratch_0 rfl (lv_at hl 0 rfl) ?_
    refine lv_iload_n hx hb dX7_scratch_1 rfl (lv_at hl 1 rfl) ?_
    obtain ⟨r8, u7, e9, hF⟩ := bdI_some hF
    refine MM.callVi (m_X7_isPrint e9) k_X7_103 S emOK hEs hK ⟨by decide, by decide⟩ (va_recv hK hP rfl c_MO) rfl rfl hl.1 (Nat.le_of_ble_eq_true rfl) dX7_scratch_2 ⟨Nat.le_refl _, Nat.le_refl _⟩ hP hD hS (fun H locs hP hD hS => ?_)
    refine lv_if_eq (tgt := 18) hx hb dX7_scratch_5 (by decide) (fun c10 => ?_) (fun c10 => ?_)
    · have hF := ite_t hF c10
      exact b18 _  hF H locs ls hP hD hS (lv_sub hl [0] rfl)
    · have hF := ite_f hF c10
      refine lv_iload_n hx hb dX7_scratch_8 rfl (lv_at hl 2 rfl) ?_
      refine lv_iconst (v := 0) hx hb dX7_scratch_9 (by decide) ?_
      refine lv_bipush (v := 39) hx hb dX7_scratch_10 (by decide) ?_
      obtain ⟨r12, u11, e13, hF⟩ := bdI_some hF
      refine MM.callSi (m_X7_in e13) k_X7_64 S emOK hEs hK ⟨by decide, by decide⟩ rfl rfl hl.1 (Nat.le_of_ble_eq_true rfl) dX7_scratch_12 ⟨Nat.le_refl _, Nat.le_refl _⟩ hP hD hS (fun H locs hP hD hS => ?_)
      refine lv_if_ne (tgt := 25) hx hb dX7_scratch_15 (by decide) (fun c14 => ?_) (fun c14 => ?_)
      · have hF := ite_f hF c14
        refine lv_aload_n hx hb dX7_scratch_25 rfl (lv_at hl 0 rfl) ?_
        refine va_get_w S hK hP _ c_MO rfl igX7 1 (by decide) q880 rfl rfl dX7_scratch_26 ?_
        refine lv_iload_n hx hb dX7_scratch_29 rfl (lv_at hl 1 rfl) ?_
        obtain ⟨hin15, hF⟩ := gd_some hF
        refine mLald S hK hP ⟨rfl, by decide⟩ rfl hin15 dX7_scratch_30 ?_
        refine lv_lstore (lv' := [(4, .long _), (0, .ref _), (1, .int _), (2, .int _), (3, .int _)]) hx hb dX7_scratch_31 hl (by decide) rfl (fun ls hl => ?_)
        refine lv_aload_n hx hb dX7_scratch_33 rfl (lv_at hl 1 rfl) ?_
        refine va_get_w S hK hP _ c_MO rfl igX7 1 (by decide) q880 rfl rfl dX7_scratch_34 ?_
        refine lv_iload_n hx hb dX7_scratch_37 rfl (lv_at hl 2 rfl) ?_
        refine lv_iload_n hx hb dX7_scratch_38 rfl (lv_at hl 4 rfl) ?_
        refine lv_if_eq (tgt := 51) hx hb dX7_scratch_39 (by decide) (fun c16 => ?_) (fun c16 => ?_)
        · have hF := ite_t hF c16
          refine lv_lload hx hb dX7_scratch_51 (lv_at hl 0 rfl) ?_
          refine lv_lconst (v := 1) hx hb dX7_scratch_53 (by decide) ?_
          refine lv_iload_n hx hb dX7_scratch_54 rfl (lv_at hl 3 rfl) ?_
          refine lv_lshl hx hb dX7_scratch_55 rfl ?_
          refine lv_ldc2 hx hb hown (hts _ q1008) dX7_scratch_56 ?_
          refine lv_lxor hx hb dX7_scratch_59 ?_
          refine lv_land hx hb dX7_scratch_60 ?_
          exact b61 _ _ _ _ _  hF H locs ls hP hD hS (lv_sub hl [1, 2, 0] rfl)
        · have hF := ite_f hF c16
          refine lv_lload hx hb dX7_scratch_42 (lv_at hl 0 rfl) ?_
          refine lv_lconst (v := 1) hx hb dX7_scratch_44 (by decide) ?_
          refine lv_iload_n hx hb dX7_scratch_45 rfl (lv_at hl 3 rfl) ?_
          refine lv_lshl hx hb dX7_scratch_46 rfl ?_
          refine lv_lor hx hb dX7_scratch_47 ?_
          refine lv_goto (tgt := 61) hx hb dX7_scratch_48 (by decide) ?_
          exact b61 _ _ _ _ _  hF H locs ls hP hD hS (lv_sub hl [1, 2, 0] rfl)
      · have hF := ite_t hF c14
        exact b18 _  hF H locs ls hP hD hS (lv_sub hl [0] rfl)
  have hl := lv_entry ([.ref (a 0), .int x1, .int x2, .int x3]) (n := 6) (Nat.le_of_ble_eq_true rfl)
  rw [lg_entry_eq]
  generalize (lg_sl ([.ref (a 0), .int x1, .int x2, .int x3]) ++ List.replicate (6 - (lg_sl ([.ref (a 0), .int x1, .int x2, .int x3])).length) Slot.unset).toArray = ls at hl ⊢
  exact b_main _ _ _ hP hD hS hl

set_option maxRecDepth 100000 in
set_option maxHeartbeats 4000000 in
theorem m_X7_look  {x1 : Int32} {u u' : Mem} {r : Int32}  (hF : F_X7_look  u x1 = some (r, u')) : MR l D cc a yX7_look cX7_look 3 (some .int) 2 43 [.ref (a 0), .int x1] u (some (.int r)) u' := by
  refine MM.ofW (by decide) (fun p e s m below meth c S hr hlocks hK hEs hP hD hS => ?_)
  have S : CallFix p m c cX7_look 3 s _ gtbl RX7 := S
  obtain ⟨hx, hb, hml, hown, hts⟩ := id S
  unfold F_X7_look at hF
  have b_main : BW p l e s m below meth c 2 43 [.ref (a 0), .int x1] D (AM a) (some (.int r)) (wlM cc a u') 3 (wlM cc a u) 0 [(0, .ref (a 0)), (1, .int x1)] [] := by
    intro H locs ls hP hD hS hl
    refine lv_aload_n hx hb dX7_look_0 rfl (lv_at hl 0 rfl) ?_
    refine lv_iload_n hx hb dX7_look_1 rfl (lv_at hl 1 rfl) ?_
    obtain ⟨r2, u1, e3, hF⟩ := bdI_some hF
    refine MM.callVi (m_X7_isPrint e3) k_X7_103 S emOK hEs hK ⟨by decide, by decide⟩ (va_recv hK hP rfl c_MO) rfl rfl hl.1 (Nat.le_of_ble_eq_true rfl) dX7_look_2 ⟨Nat.le_refl _, Nat.le_refl _⟩ hP hD hS (fun H locs hP hD hS => ?_)
    refine lv_if_ne (tgt := 15) hx hb dX7_look_5 (by decide) (fun c4 => ?_) (fun c4 => ?_)
    · have hF := ite_f hF c4
      refine lv_aload_n hx hb dX7_look_15 rfl (lv_at hl 0 rfl) ?_
      refine lv_iload_n hx hb dX7_look_16 rfl (lv_at hl 1 rfl) ?_
      refine lv_iconst (v := 3) hx hb dX7_look_17 (by decide) ?_
      obtain ⟨r6, u5, e7, hF⟩ := bdI_some hF
      refine MM.callVi (m_X7_its e7) k_X7_68 S emOK hEs hK ⟨by decide, by decide⟩ (va_recv hK hP rfl c_MO) rfl rfl hl.1 (Nat.le_of_ble_eq_true rfl) dX7_look_18 ⟨Nat.le_refl _, Nat.le_refl _⟩ hP hD hS (fun H locs hP hD hS => ?_)
      refine lv_istore_n (lv' := [(2, .int _), (0, .ref _), (1, .int _)]) hx hb dX7_look_21 rfl hl (by decide) rfl (fun ls hl => ?_)
      refine lv_aload_n hx hb dX7_look_22 rfl (lv_at hl 1 rfl) ?_
      refine lv_iload_n hx hb dX7_look_23 rfl (lv_at hl 2 rfl) ?_
      refine lv_iconst (v := 3) hx hb dX7_look_24 (by decide) ?_
      refine lv_iconst (v := 1) hx hb dX7_look_25 (by decide) ?_
      obtain ⟨u8, e10, hF⟩ := bdV_some hF
      refine MM.callVv (m_X7_sets e10) k_X7_86 S emOK hEs hK ⟨by decide, by decide⟩ (va_recv hK hP rfl c_MO) rfl rfl hl.1 (Nat.le_of_ble_eq_true rfl) dX7_look_26 ⟨Nat.le_refl _, Nat.le_refl _⟩ hP hD hS (fun H locs hP hD hS => ?_)
      refine lv_iconst (v := 1) hx hb dX7_look_29 (by decide) ?_
      refine lv_iload_n hx hb dX7_look_30 rfl (lv_at hl 0 rfl) ?_
      refine lv_isub hx hb dX7_look_31 ?_
      obtain ⟨rfl, rfl⟩ := sp_eq hF
      exact retI S hr hlocks hP hD hS dX7_look_32
    · have hF := ite_t hF c4
      refine lv_aload_n hx hb dX7_look_8 rfl (lv_at hl 0 rfl) ?_
      refine lv_ldc hx hb hown (hts _ q966) dX7_look_9 ?_
      obtain ⟨r12, u11, e13, hF⟩ := bdI_some hF
      refine MM.callVi (m_X7_finds e13) k_X7_94 S emOK hEs hK ⟨by decide, by decide⟩ (va_recv hK hP rfl c_MO) rfl rfl hl.1 (Nat.le_of_ble_eq_true rfl) dX7_look_11 ⟨Nat.le_refl _, Nat.le_refl _⟩ hP hD hS (fun H locs hP hD hS => ?_)
      obtain ⟨rfl, rfl⟩ := sp_eq hF
      exact retI S hr hlocks hP hD hS dX7_look_14
  have hl := lv_entry ([.ref (a 0), .int x1]) (n := 3) (Nat.le_of_ble_eq_true rfl)
  rw [lg_entry_eq]
  generalize (lg_sl ([.ref (a 0), .int x1]) ++ List.replicate (3 - (lg_sl ([.ref (a 0), .int x1])).length) Slot.unset).toArray = ls at hl ⊢
  exact b_main _ _ _ hP hD hS hl

set_option maxRecDepth 100000 in
set_option maxHeartbeats 4000000 in
theorem m_X7_turn  {x1 : Int32} {x2 : Int32} {u u' : Mem} {r : Int32}  (hF : F_X7_turn  u x1 x2 = some (r, u')) : MR l D cc a yX7_turn cX7_turn 4 (some .int) 2 43 [.ref (a 0), .int x1, .int x2] u (some (.int r)) u' := by
  refine MM.ofW (by decide) (fun p e s m below meth c S hr hlocks hK hEs hP hD hS => ?_)
  have S : CallFix p m c cX7_turn 4 s _ gtbl RX7 := S
  obtain ⟨hx, hb, hml, hown, hts⟩ := id S
  have b15 : ∀  (u : Mem)  , F_X7_turn_15  u  = some (r, u') → BW p l e s m below meth c 2 43 [.ref (a 0), .int x1, .int x2] D (AM a) (some (.int r)) (wlM cc a u') 4 (wlM cc a u) 15 [(0, .ref (a 0))] [] := by
    intro  u  hF H locs ls hP hD hS hl
    unfold F_X7_turn_15 at hF
    refine lv_aload_n hx hb dX7_turn_15 rfl (lv_at hl 0 rfl) ?_
    refine lv_ldc hx hb hown (hts _ q966) dX7_turn_16 ?_
    obtain ⟨r2, u1, e3, hF⟩ := bdI_some hF
    refine MM.callVi (m_X7_finds e3) k_X7_94 S emOK hEs hK ⟨by decide, by decide⟩ (va_recv hK hP rfl c_MO) rfl rfl hl.1 (Nat.le_of_ble_eq_true rfl) dX7_turn_18 ⟨Nat.le_refl _, Nat.le_refl _⟩ hP hD hS (fun H locs hP hD hS => ?_)
    obtain ⟨rfl, rfl⟩ := sp_eq hF
    exact retI S hr hlocks hP hD hS dX7_turn_21
  unfold F_X7_turn at hF
  have b_main : BW p l e s m below meth c 2 43 [.ref (a 0), .int x1, .int x2] D (AM a) (some (.int r)) (wlM cc a u') 4 (wlM cc a u) 0 [(0, .ref (a 0)), (1, .int x1), (2, .int x2)] [] := by
    intro H locs ls hP hD hS hl
    refine lv_aload_n hx hb dX7_turn_0 rfl (lv_at hl 0 rfl) ?_
    refine lv_iload_n hx hb dX7_turn_1 rfl (lv_at hl 1 rfl) ?_
    obtain ⟨r5, u4, e6, hF⟩ := bdI_some hF
    refine MM.callVi (m_X7_isPrint e6) k_X7_103 S emOK hEs hK ⟨by decide, by decide⟩ (va_recv hK hP rfl c_MO) rfl rfl hl.1 (Nat.le_of_ble_eq_true rfl) dX7_turn_2 ⟨Nat.le_refl _, Nat.le_refl _⟩ hP hD hS (fun H locs hP hD hS => ?_)
    refine lv_if_eq (tgt := 15) hx hb dX7_turn_5 (by decide) (fun c7 => ?_) (fun c7 => ?_)
    · have hF := ite_t hF c7
      exact b15 _  hF H locs ls hP hD hS (lv_sub hl [0] rfl)
    · have hF := ite_f hF c7
      refine lv_iload_n hx hb dX7_turn_8 rfl (lv_at hl 2 rfl) ?_
      obtain ⟨r9, u8, e10, hF⟩ := bdI_some hF
      refine MM.callSi (m_X7_isKind e10) k_X7_90 S emOK hEs hK ⟨by decide, by decide⟩ rfl rfl hl.1 (Nat.le_of_ble_eq_true rfl) dX7_turn_9 ⟨Nat.le_refl _, Nat.le_refl _⟩ hP hD hS (fun H locs hP hD hS => ?_)
      refine lv_if_ne (tgt := 22) hx hb dX7_turn_12 (by decide) (fun c11 => ?_) (fun c11 => ?_)
      · have hF := ite_f hF c11
        refine lv_aload_n hx hb dX7_turn_22 rfl (lv_at hl 0 rfl) ?_
        refine lv_iload_n hx hb dX7_turn_23 rfl (lv_at hl 1 rfl) ?_
        refine lv_iconst (v := 0) hx hb dX7_turn_24 (by decide) ?_
        obtain ⟨r13, u12, e14, hF⟩ := bdI_some hF
        refine MM.callVi (m_X7_its e14) k_X7_68 S emOK hEs hK ⟨by decide, by decide⟩ (va_recv hK hP rfl c_MO) rfl rfl hl.1 (Nat.le_of_ble_eq_true rfl) dX7_turn_25 ⟨Nat.le_refl _, Nat.le_refl _⟩ hP hD hS (fun H locs hP hD hS => ?_)
        refine lv_istore_n (lv' := [(3, .int _), (0, .ref _), (1, .int _), (2, .int _)]) hx hb dX7_turn_28 rfl hl (by decide) rfl (fun ls hl => ?_)
        refine lv_aload_n hx hb dX7_turn_29 rfl (lv_at hl 1 rfl) ?_
        refine lv_iload_n hx hb dX7_turn_30 rfl (lv_at hl 2 rfl) ?_
        refine lv_iconst (v := 0) hx hb dX7_turn_31 (by decide) ?_
        refine lv_iload_n hx hb dX7_turn_32 rfl (lv_at hl 3 rfl) ?_
        obtain ⟨u15, e17, hF⟩ := bdV_some hF
        refine MM.callVv (m_X7_sets e17) k_X7_86 S emOK hEs hK ⟨by decide, by decide⟩ (va_recv hK hP rfl c_MO) rfl rfl hl.1 (Nat.le_of_ble_eq_true rfl) dX7_turn_33 ⟨Nat.le_refl _, Nat.le_refl _⟩ hP hD hS (fun H locs hP hD hS => ?_)
        refine lv_iload_n hx hb dX7_turn_36 rfl (lv_at hl 0 rfl) ?_
        obtain ⟨rfl, rfl⟩ := sp_eq hF
        exact retI S hr hlocks hP hD hS dX7_turn_37
      · have hF := ite_t hF c11
        exact b15 _  hF H locs ls hP hD hS (lv_sub hl [0] rfl)
  have hl := lv_entry ([.ref (a 0), .int x1, .int x2]) (n := 4) (Nat.le_of_ble_eq_true rfl)
  rw [lg_entry_eq]
  generalize (lg_sl ([.ref (a 0), .int x1, .int x2]) ++ List.replicate (4 - (lg_sl ([.ref (a 0), .int x1, .int x2])).length) Slot.unset).toArray = ls at hl ⊢
  exact b_main _ _ _ hP hD hS hl

set_option maxRecDepth 100000 in
set_option maxHeartbeats 4000000 in
theorem m_X7_isUnder  {x0 : Int32} {x1 : Int32} {u u' : Mem} {r : Int32}  (hF : F_X7_isUnder  u x0 x1 = some (r, u')) : MR l D cc a yX7_isUnder cX7_isUnder 2 (some .boolean) 0 0 [.int x0, .int x1] u (some (.int r)) u' := by
  refine MM.ofW (by decide) (fun p e s m below meth c S hr hlocks hK hEs hP hD hS => ?_)
  have S : CallFix p m c cX7_isUnder 2 s _ gtbl RX7 := S
  obtain ⟨hx, hb, hml, hown, hts⟩ := id S
  have b34 : ∀  (u : Mem) (y0 : Int32) , F_X7_isUnder_34  u y0 = some (r, u') → BW p l e s m below meth c 0 0 [.int x0, .int x1] D (AM a) (some (.int r)) (wlM cc a u') 2 (wlM cc a u) 34 [] [.int y0] := by
    intro  u y0 hF H locs ls hP hD hS hl
    unfold F_X7_isUnder_34 at hF
    obtain ⟨hz1, hF⟩ := gz_some hF
    obtain ⟨rfl, rfl⟩ := sp_eq hF
    exact retZ S hr hlocks hP hD hS hz1 dX7_isUnder_34
  have b29 : ∀  (u : Mem)  , F_X7_isUnder_29  u  = some (r, u') → BW p l e s m below meth c 0 0 [.int x0, .int x1] D (AM a) (some (.int r)) (wlM cc a u') 2 (wlM cc a u) 29 [] [] := by
    intro  u  hF H locs ls hP hD hS hl
    unfold F_X7_isUnder_29 at hF
    refine lv_iconst (v := 1) hx hb dX7_isUnder_29 (by decide) ?_
    refine lv_goto (tgt := 34) hx hb dX7_isUnder_30 (by decide) ?_
    exact b34 _ _  hF H locs ls hP hD hS (lv_sub hl [] rfl)
  have b33 : ∀  (u : Mem)  , F_X7_isUnder_33  u  = some (r, u') → BW p l e s m below meth c 0 0 [.int x0, .int x1] D (AM a) (some (.int r)) (wlM cc a u') 2 (wlM cc a u) 33 [] [] := by
    intro  u  hF H locs ls hP hD hS hl
    unfold F_X7_isUnder_33 at hF
    refine lv_iconst (v := 0) hx hb dX7_isUnder_33 (by decide) ?_
    exact b34 _ _  hF H locs ls hP hD hS (lv_sub hl [] rfl)
  have b19 : ∀  (u : Mem) (v0 : Int32) (v1 : Int32) , F_X7_isUnder_19  u v0 v1 = some (r, u') → BW p l e s m below meth c 0 0 [.int x0, .int x1] D (AM a) (some (.int r)) (wlM cc a u') 2 (wlM cc a u) 19 [(0, .int v0), (1, .int v1)] [] := by
    intro  u v0 v1 hF H locs ls hP hD hS hl
    unfold F_X7_isUnder_19 at hF
    refine lv_iload_n hx hb dX7_isUnder_19 rfl (lv_at hl 1 rfl) ?_
    refine lv_iconst (v := 2) hx hb dX7_isUnder_20 (by decide) ?_
    refine lv_icmp_ne (tgt := 33) hx hb dX7_isUnder_21 (by decide) (fun c2 => ?_) (fun c2 => ?_)
    · have hF := ite_f hF c2
      exact b33 _  hF H locs ls hP hD hS (lv_sub hl [] rfl)
    · have hF := ite_t hF c2
      refine lv_iload_n hx hb dX7_isUnder_24 rfl (lv_at hl 0 rfl) ?_
      refine lv_iconst (v := 3) hx hb dX7_isUnder_25 (by decide) ?_
      refine lv_icmp_ne (tgt := 33) hx hb dX7_isUnder_26 (by decide) (fun c3 => ?_) (fun c3 => ?_)
      · have hF := ite_f hF c3
        exact b33 _  hF H locs ls hP hD hS (lv_sub hl [] rfl)
      · have hF := ite_t hF c3
        exact b29 _  hF H locs ls hP hD hS (lv_sub hl [] rfl)
  unfold F_X7_isUnder at hF
  have b_main : BW p l e s m below meth c 0 0 [.int x0, .int x1] D (AM a) (some (.int r)) (wlM cc a u') 2 (wlM cc a u) 0 [(0, .int x0), (1, .int x1)] [] := by
    intro H locs ls hP hD hS hl
    refine lv_iload_n hx hb dX7_isUnder_0 rfl (lv_at hl 1 rfl) ?_
    refine lv_if_eq (tgt := 29) hx hb dX7_isUnder_1 (by decide) (fun c4 => ?_) (fun c4 => ?_)
    · have hF := ite_t hF c4
      exact b29 _  hF H locs ls hP hD hS (lv_sub hl [] rfl)
    · have hF := ite_f hF c4
      refine lv_iload_n hx hb dX7_isUnder_4 rfl (lv_at hl 1 rfl) ?_
      refine lv_iload_n hx hb dX7_isUnder_5 rfl (lv_at hl 0 rfl) ?_
      refine lv_icmp_eq (tgt := 29) hx hb dX7_isUnder_6 (by decide) (fun c5 => ?_) (fun c5 => ?_)
      · have hF := ite_t hF c5
        exact b29 _  hF H locs ls hP hD hS (lv_sub hl [] rfl)
      · have hF := ite_f hF c5
        refine lv_iload_n hx hb dX7_isUnder_9 rfl (lv_at hl 1 rfl) ?_
        refine lv_iconst (v := 1) hx hb dX7_isUnder_10 (by decide) ?_
        refine lv_icmp_ne (tgt := 19) hx hb dX7_isUnder_11 (by decide) (fun c6 => ?_) (fun c6 => ?_)
        · have hF := ite_f hF c6
          exact b19 _ _ _  hF H locs ls hP hD hS (lv_sub hl [0, 1] rfl)
        · have hF := ite_t hF c6
          refine lv_iload_n hx hb dX7_isUnder_14 rfl (lv_at hl 0 rfl) ?_
          refine lv_iconst (v := 5) hx hb dX7_isUnder_15 (by decide) ?_
          refine lv_icmp_eq (tgt := 29) hx hb dX7_isUnder_16 (by decide) (fun c7 => ?_) (fun c7 => ?_)
          · have hF := ite_t hF c7
            exact b29 _  hF H locs ls hP hD hS (lv_sub hl [] rfl)
          · have hF := ite_f hF c7
            exact b19 _ _ _  hF H locs ls hP hD hS (lv_sub hl [0, 1] rfl)
  have hl := lv_entry ([.int x0, .int x1]) (n := 2) (Nat.le_of_ble_eq_true rfl)
  rw [lg_entry_eq]
  generalize (lg_sl ([.int x0, .int x1]) ++ List.replicate (2 - (lg_sl ([.int x0, .int x1])).length) Slot.unset).toArray = ls at hl ⊢
  exact b_main _ _ _ hP hD hS hl

set_option maxRecDepth 100000 in
set_option maxHeartbeats 4000000 in
theorem m_X7_as  {x1 : Int32} {x2 : Int32} {u u' : Mem} {r : Int32}  (hF : F_X7_as  u x1 x2 = some (r, u')) : MR l D cc a yX7_as cX7_as 3 (some .int) 2 43 [.ref (a 0), .int x1, .int x2] u (some (.int r)) u' := by
  refine MM.ofW (by decide) (fun p e s m below meth c S hr hlocks hK hEs hP hD hS => ?_)
  have S : CallFix p m c cX7_as 3 s _ gtbl RX7 := S
  obtain ⟨hx, hb, hml, hown, hts⟩ := id S
  have b15 : ∀  (u : Mem)  , F_X7_as_15  u  = some (r, u') → BW p l e s m below meth c 2 43 [.ref (a 0), .int x1, .int x2] D (AM a) (some (.int r)) (wlM cc a u') 3 (wlM cc a u) 15 [(0, .ref (a 0))] [] := by
    intro  u  hF H locs ls hP hD hS hl
    unfold F_X7_as_15 at hF
    refine lv_aload_n hx hb dX7_as_15 rfl (lv_at hl 0 rfl) ?_
    refine lv_ldc hx hb hown (hts _ q966) dX7_as_16 ?_
    obtain ⟨r2, u1, e3, hF⟩ := bdI_some hF
    refine MM.callVi (m_X7_finds e3) k_X7_94 S emOK hEs hK ⟨by decide, by decide⟩ (va_recv hK hP rfl c_MO) rfl rfl hl.1 (Nat.le_of_ble_eq_true rfl) dX7_as_18 ⟨Nat.le_refl _, Nat.le_refl _⟩ hP hD hS (fun H locs hP hD hS => ?_)
    obtain ⟨rfl, rfl⟩ := sp_eq hF
    exact retI S hr hlocks hP hD hS dX7_as_21
  have b50 : ∀  (u : Mem) (y0 : Int32) , F_X7_as_50  u y0 = some (r, u') → BW p l e s m below meth c 2 43 [.ref (a 0), .int x1, .int x2] D (AM a) (some (.int r)) (wlM cc a u') 3 (wlM cc a u) 50 [] [.int y0] := by
    intro  u y0 hF H locs ls hP hD hS hl
    unfold F_X7_as_50 at hF
    obtain ⟨rfl, rfl⟩ := sp_eq hF
    exact retI S hr hlocks hP hD hS dX7_as_50
  unfold F_X7_as at hF
  have b_main : BW p l e s m below meth c 2 43 [.ref (a 0), .int x1, .int x2] D (AM a) (some (.int r)) (wlM cc a u') 3 (wlM cc a u) 0 [(0, .ref (a 0)), (1, .int x1), (2, .int x2)] [] := by
    intro H locs ls hP hD hS hl
    refine lv_aload_n hx hb dX7_as_0 rfl (lv_at hl 0 rfl) ?_
    refine lv_iload_n hx hb dX7_as_1 rfl (lv_at hl 1 rfl) ?_
    obtain ⟨r5, u4, e6, hF⟩ := bdI_some hF
    refine MM.callVi (m_X7_isPrint e6) k_X7_103 S emOK hEs hK ⟨by decide, by decide⟩ (va_recv hK hP rfl c_MO) rfl rfl hl.1 (Nat.le_of_ble_eq_true rfl) dX7_as_2 ⟨Nat.le_refl _, Nat.le_refl _⟩ hP hD hS (fun H locs hP hD hS => ?_)
    refine lv_if_eq (tgt := 15) hx hb dX7_as_5 (by decide) (fun c7 => ?_) (fun c7 => ?_)
    · have hF := ite_t hF c7
      exact b15 _  hF H locs ls hP hD hS (lv_sub hl [0] rfl)
    · have hF := ite_f hF c7
      refine lv_iload_n hx hb dX7_as_8 rfl (lv_at hl 2 rfl) ?_
      obtain ⟨r9, u8, e10, hF⟩ := bdI_some hF
      refine MM.callSi (m_X7_isKind e10) k_X7_90 S emOK hEs hK ⟨by decide, by decide⟩ rfl rfl hl.1 (Nat.le_of_ble_eq_true rfl) dX7_as_9 ⟨Nat.le_refl _, Nat.le_refl _⟩ hP hD hS (fun H locs hP hD hS => ?_)
      refine lv_if_ne (tgt := 22) hx hb dX7_as_12 (by decide) (fun c11 => ?_) (fun c11 => ?_)
      · have hF := ite_f hF c11
        refine lv_aload_n hx hb dX7_as_22 rfl (lv_at hl 0 rfl) ?_
        refine lv_iload_n hx hb dX7_as_23 rfl (lv_at hl 1 rfl) ?_
        refine lv_iconst (v := 0) hx hb dX7_as_24 (by decide) ?_
        obtain ⟨r13, u12, e14, hF⟩ := bdI_some hF
        refine MM.callVi (m_X7_its e14) k_X7_68 S emOK hEs hK ⟨by decide, by decide⟩ (va_recv hK hP rfl c_MO) rfl rfl hl.1 (Nat.le_of_ble_eq_true rfl) dX7_as_25 ⟨Nat.le_refl _, Nat.le_refl _⟩ hP hD hS (fun H locs hP hD hS => ?_)
        refine lv_iload_n hx hb dX7_as_28 rfl (lv_at hl 2 rfl) ?_
        obtain ⟨r16, u15, e17, hF⟩ := bdI_some hF
        refine MM.callSi (m_X7_isUnder e17) k_X7_120 S emOK hEs hK ⟨by decide, by decide⟩ rfl rfl hl.1 (Nat.le_of_ble_eq_true rfl) dX7_as_29 ⟨Nat.le_refl _, Nat.le_refl _⟩ hP hD hS (fun H locs hP hD hS => ?_)
        refine lv_if_eq (tgt := 44) hx hb dX7_as_32 (by decide) (fun c18 => ?_) (fun c18 => ?_)
        · have hF := ite_t hF c18
          refine lv_aload_n hx hb dX7_as_44 rfl (lv_at hl 0 rfl) ?_
          refine lv_ldc hx hb hown (hts _ q1042) dX7_as_45 ?_
          obtain ⟨r20, u19, e21, hF⟩ := bdI_some hF
          refine MM.callVi (m_X7_finds e21) k_X7_94 S emOK hEs hK ⟨by decide, by decide⟩ (va_recv hK hP rfl c_MO) rfl rfl hl.1 (Nat.le_of_ble_eq_true rfl) dX7_as_47 ⟨Nat.le_refl _, Nat.le_refl _⟩ hP hD hS (fun H locs hP hD hS => ?_)
          exact b50 _ _  hF H locs ls hP hD hS (lv_sub hl [] rfl)
        · have hF := ite_f hF c18
          refine lv_aload_n hx hb dX7_as_35 rfl (lv_at hl 0 rfl) ?_
          refine lv_iload_n hx hb dX7_as_36 rfl (lv_at hl 1 rfl) ?_
          refine lv_iconst (v := 2) hx hb dX7_as_37 (by decide) ?_
          obtain ⟨r23, u22, e24, hF⟩ := bdI_some hF
          refine MM.callVi (m_X7_its e24) k_X7_68 S emOK hEs hK ⟨by decide, by decide⟩ (va_recv hK hP rfl c_MO) rfl rfl hl.1 (Nat.le_of_ble_eq_true rfl) dX7_as_38 ⟨Nat.le_refl _, Nat.le_refl _⟩ hP hD hS (fun H locs hP hD hS => ?_)
          refine lv_goto (tgt := 50) hx hb dX7_as_41 (by decide) ?_
          exact b50 _ _  hF H locs ls hP hD hS (lv_sub hl [] rfl)
      · have hF := ite_t hF c11
        exact b15 _  hF H locs ls hP hD hS (lv_sub hl [0] rfl)
  have hl := lv_entry ([.ref (a 0), .int x1, .int x2]) (n := 3) (Nat.le_of_ble_eq_true rfl)
  rw [lg_entry_eq]
  generalize (lg_sl ([.ref (a 0), .int x1, .int x2]) ++ List.replicate (3 - (lg_sl ([.ref (a 0), .int x1, .int x2])).length) Slot.unset).toArray = ls at hl ⊢
  exact b_main _ _ _ hP hD hS hl

set_option maxRecDepth 100000 in
set_option maxHeartbeats 4000000 in
theorem m_X7_slack  {x1 : Int32} {u u' : Mem} {r : Int32}  (hF : F_X7_slack  u x1 = some (r, u')) : MR l D cc a yX7_slack cX7_slack 3 (some .int) 1 22 [.ref (a 0), .int x1] u (some (.int r)) u' := by
  refine MM.ofW (by decide) (fun p e s m below meth c S hr hlocks hK hEs hP hD hS => ?_)
  have S : CallFix p m c cX7_slack 3 s _ gtbl RX7 := S
  obtain ⟨hx, hb, hml, hown, hts⟩ := id S
  unfold F_X7_slack at hF
  have b_main : BW p l e s m below meth c 1 22 [.ref (a 0), .int x1] D (AM a) (some (.int r)) (wlM cc a u') 3 (wlM cc a u) 0 [(0, .ref (a 0)), (1, .int x1)] [] := by
    intro H locs ls hP hD hS hl
    refine lv_iload_n hx hb dX7_slack_0 rfl (lv_at hl 1 rfl) ?_
    refine lv_iconst (v := 0) hx hb dX7_slack_1 (by decide) ?_
    refine lv_sipush (v := 999) hx hb dX7_slack_2 (by decide) ?_
    obtain ⟨r2, u1, e3, hF⟩ := bdI_some hF
    refine MM.callSi (m_X7_in e3) k_X7_64 S emOK hEs hK ⟨by decide, by decide⟩ rfl rfl hl.1 (Nat.le_of_ble_eq_true rfl) dX7_slack_5 ⟨Nat.le_refl _, Nat.le_refl _⟩ hP hD hS (fun H locs hP hD hS => ?_)
    refine lv_if_ne (tgt := 18) hx hb dX7_slack_8 (by decide) (fun c4 => ?_) (fun c4 => ?_)
    · have hF := ite_f hF c4
      refine lv_aload_n hx hb dX7_slack_18 rfl (lv_at hl 0 rfl) ?_
      refine va_get_w S hK hP _ c_MO rfl igX7 0 (by decide) q879 rfl rfl dX7_slack_19 ?_
      refine lv_iconst (v := 1) hx hb dX7_slack_22 (by decide) ?_
      obtain ⟨hin5, hF⟩ := gd_some hF
      refine mIald S hK hP ⟨rfl, by decide⟩ rfl hin5 dX7_slack_23 ?_
      refine lv_istore_n (lv' := [(2, .int _), (0, .ref _), (1, .int _)]) hx hb dX7_slack_24 rfl hl (by decide) rfl (fun ls hl => ?_)
      refine lv_aload_n hx hb dX7_slack_25 rfl (lv_at hl 1 rfl) ?_
      refine va_get_w S hK hP _ c_MO rfl igX7 0 (by decide) q879 rfl rfl dX7_slack_26 ?_
      refine lv_iconst (v := 1) hx hb dX7_slack_29 (by decide) ?_
      refine lv_iload_n hx hb dX7_slack_30 rfl (lv_at hl 2 rfl) ?_
      obtain ⟨hin6, hF⟩ := gd_some hF
      refine mIast S hK hP hD hS ⟨rfl, by decide⟩ rfl hin6 dX7_slack_31 (fun H locs hP hD hS => ?_)
      refine lv_iload_n hx hb dX7_slack_32 rfl (lv_at hl 0 rfl) ?_
      obtain ⟨rfl, rfl⟩ := sp_eq hF
      exact retI S hr hlocks hP hD hS dX7_slack_33
    · have hF := ite_t hF c4
      refine lv_aload_n hx hb dX7_slack_11 rfl (lv_at hl 0 rfl) ?_
      refine lv_ldc hx hb hown (hts _ q966) dX7_slack_12 ?_
      obtain ⟨r8, u7, e9, hF⟩ := bdI_some hF
      refine MM.callVi (m_X7_finds e9) k_X7_94 S emOK hEs hK ⟨by decide, by decide⟩ (va_recv hK hP rfl c_MO) rfl rfl hl.1 (Nat.le_of_ble_eq_true rfl) dX7_slack_14 ⟨Nat.le_refl _, Nat.le_refl _⟩ hP hD hS (fun H locs hP hD hS => ?_)
      obtain ⟨rfl, rfl⟩ := sp_eq hF
      exact retI S hr hlocks hP hD hS dX7_slack_17
  have hl := lv_entry ([.ref (a 0), .int x1]) (n := 3) (Nat.le_of_ble_eq_true rfl)
  rw [lg_entry_eq]
  generalize (lg_sl ([.ref (a 0), .int x1]) ++ List.replicate (3 - (lg_sl ([.ref (a 0), .int x1])).length) Slot.unset).toArray = ls at hl ⊢
  exact b_main _ _ _ hP hD hS hl

set_option maxRecDepth 100000 in
set_option maxHeartbeats 4000000 in
theorem m_X7_areTwo  {x1 : Int32} {x2 : Int32} {u u' : Mem} {r : Int32}  (hF : F_X7_areTwo  u x1 x2 = some (r, u')) : MR l D cc a yX7_areTwo cX7_areTwo 3 (some .boolean) 2 43 [.ref (a 0), .int x1, .int x2] u (some (.int r)) u' := by
  refine MM.ofW (by decide) (fun p e s m below meth c S hr hlocks hK hEs hP hD hS => ?_)
  have S : CallFix p m c cX7_areTwo 3 s _ gtbl RX7 := S
  obtain ⟨hx, hb, hml, hown, hts⟩ := id S
  have b26 : ∀  (u : Mem) (y0 : Int32) , F_X7_areTwo_26  u y0 = some (r, u') → BW p l e s m below meth c 2 43 [.ref (a 0), .int x1, .int x2] D (AM a) (some (.int r)) (wlM cc a u') 3 (wlM cc a u) 26 [] [.int y0] := by
    intro  u y0 hF H locs ls hP hD hS hl
    unfold F_X7_areTwo_26 at hF
    obtain ⟨hz1, hF⟩ := gz_some hF
    obtain ⟨rfl, rfl⟩ := sp_eq hF
    exact retZ S hr hlocks hP hD hS hz1 dX7_areTwo_26
  have b25 : ∀  (u : Mem)  , F_X7_areTwo_25  u  = some (r, u') → BW p l e s m below meth c 2 43 [.ref (a 0), .int x1, .int x2] D (AM a) (some (.int r)) (wlM cc a u') 3 (wlM cc a u) 25 [] [] := by
    intro  u  hF H locs ls hP hD hS hl
    unfold F_X7_areTwo_25 at hF
    refine lv_iconst (v := 0) hx hb dX7_areTwo_25 (by decide) ?_
    exact b26 _ _  hF H locs ls hP hD hS (lv_sub hl [] rfl)
  unfold F_X7_areTwo at hF
  have b_main : BW p l e s m below meth c 2 43 [.ref (a 0), .int x1, .int x2] D (AM a) (some (.int r)) (wlM cc a u') 3 (wlM cc a u) 0 [(0, .ref (a 0)), (1, .int x1), (2, .int x2)] [] := by
    intro H locs ls hP hD hS hl
    refine lv_aload_n hx hb dX7_areTwo_0 rfl (lv_at hl 0 rfl) ?_
    refine lv_iload_n hx hb dX7_areTwo_1 rfl (lv_at hl 1 rfl) ?_
    obtain ⟨r3, u2, e4, hF⟩ := bdI_some hF
    refine MM.callVi (m_X7_isPrint e4) k_X7_103 S emOK hEs hK ⟨by decide, by decide⟩ (va_recv hK hP rfl c_MO) rfl rfl hl.1 (Nat.le_of_ble_eq_true rfl) dX7_areTwo_2 ⟨Nat.le_refl _, Nat.le_refl _⟩ hP hD hS (fun H locs hP hD hS => ?_)
    refine lv_if_eq (tgt := 25) hx hb dX7_areTwo_5 (by decide) (fun c5 => ?_) (fun c5 => ?_)
    · have hF := ite_t hF c5
      exact b25 _  hF H locs ls hP hD hS (lv_sub hl [] rfl)
    · have hF := ite_f hF c5
      refine lv_aload_n hx hb dX7_areTwo_8 rfl (lv_at hl 0 rfl) ?_
      refine lv_iload_n hx hb dX7_areTwo_9 rfl (lv_at hl 2 rfl) ?_
      obtain ⟨r7, u6, e8, hF⟩ := bdI_some hF
      refine MM.callVi (m_X7_isPrint e8) k_X7_103 S emOK hEs hK ⟨by decide, by decide⟩ (va_recv hK hP rfl c_MO) rfl rfl hl.1 (Nat.le_of_ble_eq_true rfl) dX7_areTwo_10 ⟨Nat.le_refl _, Nat.le_refl _⟩ hP hD hS (fun H locs hP hD hS => ?_)
      refine lv_if_eq (tgt := 25) hx hb dX7_areTwo_13 (by decide) (fun c9 => ?_) (fun c9 => ?_)
      · have hF := ite_t hF c9
        exact b25 _  hF H locs ls hP hD hS (lv_sub hl [] rfl)
      · have hF := ite_f hF c9
        refine lv_iload_n hx hb dX7_areTwo_16 rfl (lv_at hl 1 rfl) ?_
        refine lv_iload_n hx hb dX7_areTwo_17 rfl (lv_at hl 2 rfl) ?_
        refine lv_icmp_eq (tgt := 25) hx hb dX7_areTwo_18 (by decide) (fun c10 => ?_) (fun c10 => ?_)
        · have hF := ite_t hF c10
          exact b25 _  hF H locs ls hP hD hS (lv_sub hl [] rfl)
        · have hF := ite_f hF c10
          refine lv_iconst (v := 1) hx hb dX7_areTwo_21 (by decide) ?_
          refine lv_goto (tgt := 26) hx hb dX7_areTwo_22 (by decide) ?_
          exact b26 _ _  hF H locs ls hP hD hS (lv_sub hl [] rfl)
  have hl := lv_entry ([.ref (a 0), .int x1, .int x2]) (n := 3) (Nat.le_of_ble_eq_true rfl)
  rw [lg_entry_eq]
  generalize (lg_sl ([.ref (a 0), .int x1, .int x2]) ++ List.replicate (3 - (lg_sl ([.ref (a 0), .int x1, .int x2])).length) Slot.unset).toArray = ls at hl ⊢
  exact b_main _ _ _ hP hD hS hl

set_option maxRecDepth 100000 in
set_option maxHeartbeats 4000000 in
theorem m_X7_marksAllow  {x1 : Int32} {x2 : Int32} {u u' : Mem} {r : Int32}  (hF : F_X7_marksAllow  u x1 x2 = some (r, u')) : MR l D cc a yX7_marksAllow cX7_marksAllow 3 (some .boolean) 3 67 [.ref (a 0), .int x1, .int x2] u (some (.int r)) u' := by
  refine MM.ofW (by decide) (fun p e s m below meth c S hr hlocks hK hEs hP hD hS => ?_)
  have S : CallFix p m c cX7_marksAllow 3 s _ gtbl RX7 := S
  obtain ⟨hx, hb, hml, hown, hts⟩ := id S
  have b41 : ∀  (u : Mem) (y0 : Int32) , F_X7_marksAllow_41  u y0 = some (r, u') → BW p l e s m below meth c 3 67 [.ref (a 0), .int x1, .int x2] D (AM a) (some (.int r)) (wlM cc a u') 3 (wlM cc a u) 41 [] [.int y0] := by
    intro  u y0 hF H locs ls hP hD hS hl
    unfold F_X7_marksAllow_41 at hF
    obtain ⟨hz1, hF⟩ := gz_some hF
    obtain ⟨rfl, rfl⟩ := sp_eq hF
    exact retZ S hr hlocks hP hD hS hz1 dX7_marksAllow_41
  have b36 : ∀  (u : Mem)  , F_X7_marksAllow_36  u  = some (r, u') → BW p l e s m below meth c 3 67 [.ref (a 0), .int x1, .int x2] D (AM a) (some (.int r)) (wlM cc a u') 3 (wlM cc a u) 36 [] [] := by
    intro  u  hF H locs ls hP hD hS hl
    unfold F_X7_marksAllow_36 at hF
    refine lv_iconst (v := 1) hx hb dX7_marksAllow_36 (by decide) ?_
    refine lv_goto (tgt := 41) hx hb dX7_marksAllow_37 (by decide) ?_
    exact b41 _ _  hF H locs ls hP hD hS (lv_sub hl [] rfl)
  unfold F_X7_marksAllow at hF
  have b_main : BW p l e s m below meth c 3 67 [.ref (a 0), .int x1, .int x2] D (AM a) (some (.int r)) (wlM cc a u') 3 (wlM cc a u) 0 [(0, .ref (a 0)), (1, .int x1), (2, .int x2)] [] := by
    intro H locs ls hP hD hS hl
    refine lv_aload_n hx hb dX7_marksAllow_0 rfl (lv_at hl 0 rfl) ?_
    refine lv_iload_n hx hb dX7_marksAllow_1 rfl (lv_at hl 2 rfl) ?_
    refine lv_iconst (v := 0) hx hb dX7_marksAllow_2 (by decide) ?_
    obtain ⟨r3, u2, e4, hF⟩ := bdI_some hF
    refine MM.callVi (m_X7_its e4) k_X7_68 S emOK hEs hK ⟨by decide, by decide⟩ (va_recv hK hP rfl c_MO) rfl rfl hl.1 (Nat.le_of_ble_eq_true rfl) dX7_marksAllow_3 ⟨Nat.le_refl _, Nat.le_refl _⟩ hP hD hS (fun H locs hP hD hS => ?_)
    refine lv_iconst (v := 4) hx hb dX7_marksAllow_6 (by decide) ?_
    refine lv_icmp_eq (tgt := 36) hx hb dX7_marksAllow_7 (by decide) (fun c5 => ?_) (fun c5 => ?_)
    · have hF := ite_t hF c5
      exact b36 _  hF H locs ls hP hD hS (lv_sub hl [] rfl)
    · have hF := ite_f hF c5
      refine lv_aload_n hx hb dX7_marksAllow_10 rfl (lv_at hl 0 rfl) ?_
      refine lv_iload_n hx hb dX7_marksAllow_11 rfl (lv_at hl 1 rfl) ?_
      obtain ⟨r7, u6, e8, hF⟩ := bdL_some hF
      refine MM.callVl (m_X7_shows e8) k_X7_109 S emOK hEs hK ⟨by decide, by decide⟩ (va_recv hK hP rfl c_MO) rfl rfl hl.1 (Nat.le_of_ble_eq_true rfl) dX7_marksAllow_12 ⟨Nat.le_refl _, Nat.le_refl _⟩ hP hD hS (fun H locs hP hD hS => ?_)
      refine lv_aload_n hx hb dX7_marksAllow_15 rfl (lv_at hl 0 rfl) ?_
      refine lv_iload_n hx hb dX7_marksAllow_16 rfl (lv_at hl 2 rfl) ?_
      obtain ⟨r10, u9, e11, hF⟩ := bdL_some hF
      refine MM.callVl (m_X7_shows e11) k_X7_109 S emOK hEs hK ⟨by decide, by decide⟩ (va_recv hK hP rfl c_MO) rfl rfl hl.1 (Nat.le_of_ble_eq_true rfl) dX7_marksAllow_17 ⟨Nat.le_refl _, Nat.le_refl _⟩ hP hD hS (fun H locs hP hD hS => ?_)
      refine lv_aload_n hx hb dX7_marksAllow_20 rfl (lv_at hl 0 rfl) ?_
      refine lv_iload_n hx hb dX7_marksAllow_21 rfl (lv_at hl 2 rfl) ?_
      obtain ⟨r13, u12, e14, hF⟩ := bdL_some hF
      refine MM.callVl (m_X7_hides e14) k_X7_78 S emOK hEs hK ⟨by decide, by decide⟩ (va_recv hK hP rfl c_MO) rfl rfl hl.1 (Nat.le_of_ble_eq_true rfl) dX7_marksAllow_22 ⟨Nat.le_refl _, Nat.le_refl _⟩ hP hD hS (fun H locs hP hD hS => ?_)
      refine lv_lor hx hb dX7_marksAllow_25 ?_
      refine lv_ldc2 hx hb hown (hts _ q1008) dX7_marksAllow_26 ?_
      refine lv_lxor hx hb dX7_marksAllow_29 ?_
      refine lv_land hx hb dX7_marksAllow_30 ?_
      refine lv_lconst (v := 0) hx hb dX7_marksAllow_31 (by decide) ?_
      refine W.lcmp hx hb dX7_marksAllow_32 ?_
      refine lv_if_ne (tgt := 40) hx hb dX7_marksAllow_33 (by decide) (fun c15 => ?_) (fun c15 => ?_)
      · have hF := ite_f hF c15
        refine lv_iconst (v := 0) hx hb dX7_marksAllow_40 (by decide) ?_
        exact b41 _ _  hF H locs ls hP hD hS (lv_sub hl [] rfl)
      · have hF := ite_t hF c15
        exact b36 _  hF H locs ls hP hD hS (lv_sub hl [] rfl)
  have hl := lv_entry ([.ref (a 0), .int x1, .int x2]) (n := 3) (Nat.le_of_ble_eq_true rfl)
  rw [lg_entry_eq]
  generalize (lg_sl ([.ref (a 0), .int x1, .int x2]) ++ List.replicate (3 - (lg_sl ([.ref (a 0), .int x1, .int x2])).length) Slot.unset).toArray = ls at hl ⊢
  exact b_main _ _ _ hP hD hS hl

set_option maxRecDepth 100000 in
set_option maxHeartbeats 4000000 in
theorem m_X7_apartBy  {x1 : Int32} {x2 : Int32} {u u' : Mem} {r : Int32}  (hF : F_X7_apartBy  u x1 x2 = some (r, u')) : MR l D cc a yX7_apartBy cX7_apartBy 4 (some .int) 2 44 [.ref (a 0), .int x1, .int x2] u (some (.int r)) u' := by
  refine MM.ofW (by decide) (fun p e s m below meth c S hr hlocks hK hEs hP hD hS => ?_)
  have S : CallFix p m c cX7_apartBy 4 s _ gtbl RX7 := S
  obtain ⟨hx, hb, hml, hown, hts⟩ := id S
  have b22 : ∀  (u : Mem) (y0 : Int32) , F_X7_apartBy_22  u y0 = some (r, u') → BW p l e s m below meth c 2 44 [.ref (a 0), .int x1, .int x2] D (AM a) (some (.int r)) (wlM cc a u') 4 (wlM cc a u) 22 [] [.int y0] := by
    intro  u y0 hF H locs ls hP hD hS hl
    unfold F_X7_apartBy_22 at hF
    obtain ⟨rfl, rfl⟩ := sp_eq hF
    exact retI S hr hlocks hP hD hS dX7_apartBy_22
  unfold F_X7_apartBy at hF
  have b_main : BW p l e s m below meth c 2 44 [.ref (a 0), .int x1, .int x2] D (AM a) (some (.int r)) (wlM cc a u') 4 (wlM cc a u) 0 [(0, .ref (a 0)), (1, .int x1), (2, .int x2)] [] := by
    intro H locs ls hP hD hS hl
    refine lv_aload_n hx hb dX7_apartBy_0 rfl (lv_at hl 0 rfl) ?_
    refine lv_iload_n hx hb dX7_apartBy_1 rfl (lv_at hl 1 rfl) ?_
    obtain ⟨r2, u1, e3, hF⟩ := bdI_some hF
    refine MM.callVi (m_X7_trueWidth e3) k_X7_106 S emOK hEs hK ⟨by decide, by decide⟩ (va_recv hK hP rfl c_MO) rfl rfl hl.1 (Nat.le_of_ble_eq_true rfl) dX7_apartBy_2 ⟨Nat.le_refl _, Nat.le_refl _⟩ hP hD hS (fun H locs hP hD hS => ?_)
    refine lv_aload_n hx hb dX7_apartBy_5 rfl (lv_at hl 0 rfl) ?_
    refine lv_iload_n hx hb dX7_apartBy_6 rfl (lv_at hl 2 rfl) ?_
    obtain ⟨r5, u4, e6, hF⟩ := bdI_some hF
    refine MM.callVi (m_X7_trueWidth e6) k_X7_106 S emOK hEs hK ⟨by decide, by decide⟩ (va_recv hK hP rfl c_MO) rfl rfl hl.1 (Nat.le_of_ble_eq_true rfl) dX7_apartBy_7 ⟨Nat.le_refl _, Nat.le_refl _⟩ hP hD hS (fun H locs hP hD hS => ?_)
    refine lv_isub hx hb dX7_apartBy_10 ?_
    refine lv_istore_n (lv' := [(3, .int _), (0, .ref _), (1, .int _), (2, .int _)]) hx hb dX7_apartBy_11 rfl hl (by decide) rfl (fun ls hl => ?_)
    refine lv_iload_n hx hb dX7_apartBy_12 rfl (lv_at hl 0 rfl) ?_
    refine lv_if_ge (tgt := 21) hx hb dX7_apartBy_13 (by decide) (fun c7 => ?_) (fun c7 => ?_)
    · have hF := ite_t hF c7
      refine lv_iload_n hx hb dX7_apartBy_21 rfl (lv_at hl 0 rfl) ?_
      exact b22 _ _  hF H locs ls hP hD hS (lv_sub hl [] rfl)
    · have hF := ite_f hF c7
      refine lv_iload_n hx hb dX7_apartBy_16 rfl (lv_at hl 0 rfl) ?_
      refine lv_ineg hx hb dX7_apartBy_17 ?_
      refine lv_goto (tgt := 22) hx hb dX7_apartBy_18 (by decide) ?_
      exact b22 _ _  hF H locs ls hP hD hS (lv_sub hl [] rfl)
  have hl := lv_entry ([.ref (a 0), .int x1, .int x2]) (n := 4) (Nat.le_of_ble_eq_true rfl)
  rw [lg_entry_eq]
  generalize (lg_sl ([.ref (a 0), .int x1, .int x2]) ++ List.replicate (4 - (lg_sl ([.ref (a 0), .int x1, .int x2])).length) Slot.unset).toArray = ls at hl ⊢
  exact b_main _ _ _ hP hD hS hl

set_option maxRecDepth 100000 in
set_option maxHeartbeats 4000000 in
theorem m_X7_canBe  {x1 : Int32} {x2 : Int32} {u u' : Mem} {r : Int32}  (hF : F_X7_canBe  u x1 x2 = some (r, u')) : MR l D cc a yX7_canBe cX7_canBe 3 (some .boolean) 4 89 [.ref (a 0), .int x1, .int x2] u (some (.int r)) u' := by
  refine MM.ofW (by decide) (fun p e s m below meth c S hr hlocks hK hEs hP hD hS => ?_)
  have S : CallFix p m c cX7_canBe 3 s _ gtbl RX7 := S
  obtain ⟨hx, hb, hml, hown, hts⟩ := id S
  have b29 : ∀  (u : Mem) (y0 : Int32) , F_X7_canBe_29  u y0 = some (r, u') → BW p l e s m below meth c 4 89 [.ref (a 0), .int x1, .int x2] D (AM a) (some (.int r)) (wlM cc a u') 3 (wlM cc a u) 29 [] [.int y0] := by
    intro  u y0 hF H locs ls hP hD hS hl
    unfold F_X7_canBe_29 at hF
    obtain ⟨hz1, hF⟩ := gz_some hF
    obtain ⟨rfl, rfl⟩ := sp_eq hF
    exact retZ S hr hlocks hP hD hS hz1 dX7_canBe_29
  have b28 : ∀  (u : Mem)  , F_X7_canBe_28  u  = some (r, u') → BW p l e s m below meth c 4 89 [.ref (a 0), .int x1, .int x2] D (AM a) (some (.int r)) (wlM cc a u') 3 (wlM cc a u) 28 [] [] := by
    intro  u  hF H locs ls hP hD hS hl
    unfold F_X7_canBe_28 at hF
    refine lv_iconst (v := 0) hx hb dX7_canBe_28 (by decide) ?_
    exact b29 _ _  hF H locs ls hP hD hS (lv_sub hl [] rfl)
  unfold F_X7_canBe at hF
  have b_main : BW p l e s m below meth c 4 89 [.ref (a 0), .int x1, .int x2] D (AM a) (some (.int r)) (wlM cc a u') 3 (wlM cc a u) 0 [(0, .ref (a 0)), (1, .int x1), (2, .int x2)] [] := by
    intro H locs ls hP hD hS hl
    refine lv_aload_n hx hb dX7_canBe_0 rfl (lv_at hl 0 rfl) ?_
    refine lv_iload_n hx hb dX7_canBe_1 rfl (lv_at hl 1 rfl) ?_
    refine lv_iload_n hx hb dX7_canBe_2 rfl (lv_at hl 2 rfl) ?_
    obtain ⟨r3, u2, e4, hF⟩ := bdI_some hF
    refine MM.callVi (m_X7_marksAllow e4) k_X7_124 S emOK hEs hK ⟨by decide, by decide⟩ (va_recv hK hP rfl c_MO) rfl rfl hl.1 (Nat.le_of_ble_eq_true rfl) dX7_canBe_3 ⟨Nat.le_refl _, Nat.le_refl _⟩ hP hD hS (fun H locs hP hD hS => ?_)
    refine lv_if_eq (tgt := 28) hx hb dX7_canBe_6 (by decide) (fun c5 => ?_) (fun c5 => ?_)
    · have hF := ite_t hF c5
      exact b28 _  hF H locs ls hP hD hS (lv_sub hl [] rfl)
    · have hF := ite_f hF c5
      refine lv_aload_n hx hb dX7_canBe_9 rfl (lv_at hl 0 rfl) ?_
      refine lv_iload_n hx hb dX7_canBe_10 rfl (lv_at hl 1 rfl) ?_
      refine lv_iload_n hx hb dX7_canBe_11 rfl (lv_at hl 2 rfl) ?_
      obtain ⟨r7, u6, e8, hF⟩ := bdI_some hF
      refine MM.callVi (m_X7_apartBy e8) k_X7_127 S emOK hEs hK ⟨by decide, by decide⟩ (va_recv hK hP rfl c_MO) rfl rfl hl.1 (Nat.le_of_ble_eq_true rfl) dX7_canBe_12 ⟨Nat.le_refl _, Nat.le_refl _⟩ hP hD hS (fun H locs hP hD hS => ?_)
      refine lv_aload_n hx hb dX7_canBe_15 rfl (lv_at hl 0 rfl) ?_
      refine va_get_w S hK hP _ c_MO rfl igX7 0 (by decide) q879 rfl rfl dX7_canBe_16 ?_
      refine lv_iconst (v := 1) hx hb dX7_canBe_19 (by decide) ?_
      obtain ⟨hin9, hF⟩ := gd_some hF
      refine mIald S hK hP ⟨rfl, by decide⟩ rfl hin9 dX7_canBe_20 ?_
      refine lv_icmp_gt (tgt := 28) hx hb dX7_canBe_21 (by decide) (fun c10 => ?_) (fun c10 => ?_)
      · have hF := ite_t hF c10
        exact b28 _  hF H locs ls hP hD hS (lv_sub hl [] rfl)
      · have hF := ite_f hF c10
        refine lv_iconst (v := 1) hx hb dX7_canBe_24 (by decide) ?_
        refine lv_goto (tgt := 29) hx hb dX7_canBe_25 (by decide) ?_
        exact b29 _ _  hF H locs ls hP hD hS (lv_sub hl [] rfl)
  have hl := lv_entry ([.ref (a 0), .int x1, .int x2]) (n := 3) (Nat.le_of_ble_eq_true rfl)
  rw [lg_entry_eq]
  generalize (lg_sl ([.ref (a 0), .int x1, .int x2]) ++ List.replicate (3 - (lg_sl ([.ref (a 0), .int x1, .int x2])).length) Slot.unset).toArray = ls at hl ⊢
  exact b_main _ _ _ hP hD hS hl

set_option maxRecDepth 100000 in
set_option maxHeartbeats 4000000 in
theorem m_X7_ahead  {x1 : Int32} {x2 : Int32} {u u' : Mem} {r : Int32}  (hF : F_X7_ahead  u x1 x2 = some (r, u')) : MR l D cc a yX7_ahead cX7_ahead 3 (some .int) 5 111 [.ref (a 0), .int x1, .int x2] u (some (.int r)) u' := by
  refine MM.ofW (by decide) (fun p e s m below meth c S hr hlocks hK hEs hP hD hS => ?_)
  have S : CallFix p m c cX7_ahead 3 s _ gtbl RX7 := S
  obtain ⟨hx, hb, hml, hown, hts⟩ := id S
  have b30 : ∀  (u : Mem) (y0 : Int32) , F_X7_ahead_30  u y0 = some (r, u') → BW p l e s m below meth c 5 111 [.ref (a 0), .int x1, .int x2] D (AM a) (some (.int r)) (wlM cc a u') 3 (wlM cc a u) 30 [] [.int y0] := by
    intro  u y0 hF H locs ls hP hD hS hl
    unfold F_X7_ahead_30 at hF
    obtain ⟨rfl, rfl⟩ := sp_eq hF
    exact retI S hr hlocks hP hD hS dX7_ahead_30
  unfold F_X7_ahead at hF
  have b_main : BW p l e s m below meth c 5 111 [.ref (a 0), .int x1, .int x2] D (AM a) (some (.int r)) (wlM cc a u') 3 (wlM cc a u) 0 [(0, .ref (a 0)), (1, .int x1), (2, .int x2)] [] := by
    intro H locs ls hP hD hS hl
    refine lv_aload_n hx hb dX7_ahead_0 rfl (lv_at hl 0 rfl) ?_
    refine lv_iload_n hx hb dX7_ahead_1 rfl (lv_at hl 1 rfl) ?_
    refine lv_iload_n hx hb dX7_ahead_2 rfl (lv_at hl 2 rfl) ?_
    obtain ⟨r2, u1, e3, hF⟩ := bdI_some hF
    refine MM.callVi (m_X7_areTwo e3) k_X7_130 S emOK hEs hK ⟨by decide, by decide⟩ (va_recv hK hP rfl c_MO) rfl rfl hl.1 (Nat.le_of_ble_eq_true rfl) dX7_ahead_3 ⟨Nat.le_refl _, Nat.le_refl _⟩ hP hD hS (fun H locs hP hD hS => ?_)
    refine lv_if_ne (tgt := 16) hx hb dX7_ahead_6 (by decide) (fun c4 => ?_) (fun c4 => ?_)
    · have hF := ite_f hF c4
      refine lv_aload_n hx hb dX7_ahead_16 rfl (lv_at hl 0 rfl) ?_
      refine lv_iload_n hx hb dX7_ahead_17 rfl (lv_at hl 1 rfl) ?_
      refine lv_iload_n hx hb dX7_ahead_18 rfl (lv_at hl 2 rfl) ?_
      obtain ⟨r6, u5, e7, hF⟩ := bdI_some hF
      refine MM.callVi (m_X7_canBe e7) k_X7_133 S emOK hEs hK ⟨by decide, by decide⟩ (va_recv hK hP rfl c_MO) rfl rfl hl.1 (Nat.le_of_ble_eq_true rfl) dX7_ahead_19 ⟨Nat.le_refl _, Nat.le_refl _⟩ hP hD hS (fun H locs hP hD hS => ?_)
      refine lv_if_eq (tgt := 29) hx hb dX7_ahead_22 (by decide) (fun c8 => ?_) (fun c8 => ?_)
      · have hF := ite_t hF c8
        refine lv_iconst (v := 0) hx hb dX7_ahead_29 (by decide) ?_
        exact b30 _ _  hF H locs ls hP hD hS (lv_sub hl [] rfl)
      · have hF := ite_f hF c8
        refine lv_iconst (v := 1) hx hb dX7_ahead_25 (by decide) ?_
        refine lv_goto (tgt := 30) hx hb dX7_ahead_26 (by decide) ?_
        exact b30 _ _  hF H locs ls hP hD hS (lv_sub hl [] rfl)
    · have hF := ite_t hF c4
      refine lv_aload_n hx hb dX7_ahead_9 rfl (lv_at hl 0 rfl) ?_
      refine lv_ldc hx hb hown (hts _ q966) dX7_ahead_10 ?_
      obtain ⟨r10, u9, e11, hF⟩ := bdI_some hF
      refine MM.callVi (m_X7_finds e11) k_X7_94 S emOK hEs hK ⟨by decide, by decide⟩ (va_recv hK hP rfl c_MO) rfl rfl hl.1 (Nat.le_of_ble_eq_true rfl) dX7_ahead_12 ⟨Nat.le_refl _, Nat.le_refl _⟩ hP hD hS (fun H locs hP hD hS => ?_)
      obtain ⟨rfl, rfl⟩ := sp_eq hF
      exact retI S hr hlocks hP hD hS dX7_ahead_15
  have hl := lv_entry ([.ref (a 0), .int x1, .int x2]) (n := 3) (Nat.le_of_ble_eq_true rfl)
  rw [lg_entry_eq]
  generalize (lg_sl ([.ref (a 0), .int x1, .int x2]) ++ List.replicate (3 - (lg_sl ([.ref (a 0), .int x1, .int x2])).length) Slot.unset).toArray = ls at hl ⊢
  exact b_main _ _ _ hP hD hS hl

set_option maxRecDepth 100000 in
set_option maxHeartbeats 4000000 in
theorem m_X7_order  {x1 : Int32} {x2 : Int32} {u u' : Mem} {r : Int32}  (hF : F_X7_order  u x1 x2 = some (r, u')) : MR l D cc a yX7_order cX7_order 3 (some .int) 5 111 [.ref (a 0), .int x1, .int x2] u (some (.int r)) u' := by
  refine MM.ofW (by decide) (fun p e s m below meth c S hr hlocks hK hEs hP hD hS => ?_)
  have S : CallFix p m c cX7_order 3 s _ gtbl RX7 := S
  obtain ⟨hx, hb, hml, hown, hts⟩ := id S
  have b44 : ∀  (u : Mem) (y0 : Int32) (y1 : Int32) , F_X7_order_44  u y0 y1 = some (r, u') → BW p l e s m below meth c 5 111 [.ref (a 0), .int x1, .int x2] D (AM a) (some (.int r)) (wlM cc a u') 3 (wlM cc a u) 44 [] [.int y1, .int y0] := by
    intro  u y0 y1 hF H locs ls hP hD hS hl
    unfold F_X7_order_44 at hF
    refine lv_iadd hx hb dX7_order_44 ?_
    obtain ⟨rfl, rfl⟩ := sp_eq hF
    exact retI S hr hlocks hP hD hS dX7_order_45
  have b30 : ∀  (u : Mem) (v1 : Int32) (v2 : Int32) (y0 : Int32) , F_X7_order_30  u v1 v2 y0 = some (r, u') → BW p l e s m below meth c 5 111 [.ref (a 0), .int x1, .int x2] D (AM a) (some (.int r)) (wlM cc a u') 3 (wlM cc a u) 30 [(0, .ref (a 0)), (1, .int v1), (2, .int v2)] [.int y0] := by
    intro  u v1 v2 y0 hF H locs ls hP hD hS hl
    unfold F_X7_order_30 at hF
    refine lv_aload_n hx hb dX7_order_30 rfl (lv_at hl 0 rfl) ?_
    refine lv_iload_n hx hb dX7_order_31 rfl (lv_at hl 2 rfl) ?_
    refine lv_iload_n hx hb dX7_order_32 rfl (lv_at hl 1 rfl) ?_
    obtain ⟨r2, u1, e3, hF⟩ := bdI_some hF
    refine MM.callVi (m_X7_canBe e3) k_X7_133 S emOK hEs hK ⟨by decide, by decide⟩ (va_recv hK hP rfl c_MO) rfl rfl hl.1 (Nat.le_of_ble_eq_true rfl) dX7_order_33 ⟨Nat.le_refl _, Nat.le_refl _⟩ hP hD hS (fun H locs hP hD hS => ?_)
    refine lv_if_eq (tgt := 43) hx hb dX7_order_36 (by decide) (fun c4 => ?_) (fun c4 => ?_)
    · have hF := ite_t hF c4
      refine lv_iconst (v := 0) hx hb dX7_order_43 (by decide) ?_
      exact b44 _ _ _  hF H locs ls hP hD hS (lv_sub hl [] rfl)
    · have hF := ite_f hF c4
      refine lv_iconst (v := 2) hx hb dX7_order_39 (by decide) ?_
      refine lv_goto (tgt := 44) hx hb dX7_order_40 (by decide) ?_
      exact b44 _ _ _  hF H locs ls hP hD hS (lv_sub hl [] rfl)
  unfold F_X7_order at hF
  have b_main : BW p l e s m below meth c 5 111 [.ref (a 0), .int x1, .int x2] D (AM a) (some (.int r)) (wlM cc a u') 3 (wlM cc a u) 0 [(0, .ref (a 0)), (1, .int x1), (2, .int x2)] [] := by
    intro H locs ls hP hD hS hl
    refine lv_aload_n hx hb dX7_order_0 rfl (lv_at hl 0 rfl) ?_
    refine lv_iload_n hx hb dX7_order_1 rfl (lv_at hl 1 rfl) ?_
    refine lv_iload_n hx hb dX7_order_2 rfl (lv_at hl 2 rfl) ?_
    obtain ⟨r6, u5, e7, hF⟩ := bdI_some hF
    refine MM.callVi (m_X7_areTwo e7) k_X7_130 S emOK hEs hK ⟨by decide, by decide⟩ (va_recv hK hP rfl c_MO) rfl rfl hl.1 (Nat.le_of_ble_eq_true rfl) dX7_order_3 ⟨Nat.le_refl _, Nat.le_refl _⟩ hP hD hS (fun H locs hP hD hS => ?_)
    refine lv_if_ne (tgt := 16) hx hb dX7_order_6 (by decide) (fun c8 => ?_) (fun c8 => ?_)
    · have hF := ite_f hF c8
      refine lv_aload_n hx hb dX7_order_16 rfl (lv_at hl 0 rfl) ?_
      refine lv_iload_n hx hb dX7_order_17 rfl (lv_at hl 1 rfl) ?_
      refine lv_iload_n hx hb dX7_order_18 rfl (lv_at hl 2 rfl) ?_
      obtain ⟨r10, u9, e11, hF⟩ := bdI_some hF
      refine MM.callVi (m_X7_canBe e11) k_X7_133 S emOK hEs hK ⟨by decide, by decide⟩ (va_recv hK hP rfl c_MO) rfl rfl hl.1 (Nat.le_of_ble_eq_true rfl) dX7_order_19 ⟨Nat.le_refl _, Nat.le_refl _⟩ hP hD hS (fun H locs hP hD hS => ?_)
      refine lv_if_eq (tgt := 29) hx hb dX7_order_22 (by decide) (fun c12 => ?_) (fun c12 => ?_)
      · have hF := ite_t hF c12
        refine lv_iconst (v := 0) hx hb dX7_order_29 (by decide) ?_
        exact b30 _ _ _ _  hF H locs ls hP hD hS (lv_sub hl [0, 1, 2] rfl)
      · have hF := ite_f hF c12
        refine lv_iconst (v := 1) hx hb dX7_order_25 (by decide) ?_
        refine lv_goto (tgt := 30) hx hb dX7_order_26 (by decide) ?_
        exact b30 _ _ _ _  hF H locs ls hP hD hS (lv_sub hl [0, 1, 2] rfl)
    · have hF := ite_t hF c8
      refine lv_aload_n hx hb dX7_order_9 rfl (lv_at hl 0 rfl) ?_
      refine lv_ldc hx hb hown (hts _ q966) dX7_order_10 ?_
      obtain ⟨r14, u13, e15, hF⟩ := bdI_some hF
      refine MM.callVi (m_X7_finds e15) k_X7_94 S emOK hEs hK ⟨by decide, by decide⟩ (va_recv hK hP rfl c_MO) rfl rfl hl.1 (Nat.le_of_ble_eq_true rfl) dX7_order_12 ⟨Nat.le_refl _, Nat.le_refl _⟩ hP hD hS (fun H locs hP hD hS => ?_)
      obtain ⟨rfl, rfl⟩ := sp_eq hF
      exact retI S hr hlocks hP hD hS dX7_order_15
  have hl := lv_entry ([.ref (a 0), .int x1, .int x2]) (n := 3) (Nat.le_of_ble_eq_true rfl)
  rw [lg_entry_eq]
  generalize (lg_sl ([.ref (a 0), .int x1, .int x2]) ++ List.replicate (3 - (lg_sl ([.ref (a 0), .int x1, .int x2])).length) Slot.unset).toArray = ls at hl ⊢
  exact b_main _ _ _ hP hD hS hl

set_option maxRecDepth 100000 in
set_option maxHeartbeats 4000000 in
theorem m_X7_alike  {x1 : Int32} {x2 : Int32} {u u' : Mem} {r : Int32}  (hF : F_X7_alike  u x1 x2 = some (r, u')) : MR l D cc a yX7_alike cX7_alike 5 (some .int) 3 67 [.ref (a 0), .int x1, .int x2] u (some (.int r)) u' := by
  refine MM.ofW (by decide) (fun p e s m below meth c S hr hlocks hK hEs hP hD hS => ?_)
  have S : CallFix p m c cX7_alike 5 s _ gtbl RX7 := S
  obtain ⟨hx, hb, hml, hown, hts⟩ := id S
  unfold F_X7_alike at hF
  have b_main : BW p l e s m below meth c 3 67 [.ref (a 0), .int x1, .int x2] D (AM a) (some (.int r)) (wlM cc a u') 5 (wlM cc a u) 0 [(0, .ref (a 0)), (1, .int x1), (2, .int x2)] [] := by
    intro H locs ls hP hD hS hl
    refine lv_aload_n hx hb dX7_alike_0 rfl (lv_at hl 0 rfl) ?_
    refine lv_iload_n hx hb dX7_alike_1 rfl (lv_at hl 1 rfl) ?_
    refine lv_iload_n hx hb dX7_alike_2 rfl (lv_at hl 2 rfl) ?_
    obtain ⟨r2, u1, e3, hF⟩ := bdI_some hF
    refine MM.callVi (m_X7_areTwo e3) k_X7_130 S emOK hEs hK ⟨by decide, by decide⟩ (va_recv hK hP rfl c_MO) rfl rfl hl.1 (Nat.le_of_ble_eq_true rfl) dX7_alike_3 ⟨Nat.le_refl _, Nat.le_refl _⟩ hP hD hS (fun H locs hP hD hS => ?_)
    refine lv_if_ne (tgt := 16) hx hb dX7_alike_6 (by decide) (fun c4 => ?_) (fun c4 => ?_)
    · have hF := ite_f hF c4
      refine lv_aload_n hx hb dX7_alike_16 rfl (lv_at hl 0 rfl) ?_
      refine lv_iload_n hx hb dX7_alike_17 rfl (lv_at hl 1 rfl) ?_
      obtain ⟨r6, u5, e7, hF⟩ := bdL_some hF
      refine MM.callVl (m_X7_hides e7) k_X7_78 S emOK hEs hK ⟨by decide, by decide⟩ (va_recv hK hP rfl c_MO) rfl rfl hl.1 (Nat.le_of_ble_eq_true rfl) dX7_alike_18 ⟨Nat.le_refl _, Nat.le_refl _⟩ hP hD hS (fun H locs hP hD hS => ?_)
      refine lv_aload_n hx hb dX7_alike_21 rfl (lv_at hl 0 rfl) ?_
      refine lv_iload_n hx hb dX7_alike_22 rfl (lv_at hl 2 rfl) ?_
      obtain ⟨r9, u8, e10, hF⟩ := bdL_some hF
      refine MM.callVl (m_X7_hides e10) k_X7_78 S emOK hEs hK ⟨by decide, by decide⟩ (va_recv hK hP rfl c_MO) rfl rfl hl.1 (Nat.le_of_ble_eq_true rfl) dX7_alike_23 ⟨Nat.le_refl _, Nat.le_refl _⟩ hP hD hS (fun H locs hP hD hS => ?_)
      refine lv_lor hx hb dX7_alike_26 ?_
      refine lv_lstore_n (lv' := [(3, .long _), (0, .ref _), (1, .int _), (2, .int _)]) hx hb dX7_alike_27 rfl hl (by decide) rfl (fun ls hl => ?_)
      refine lv_ldc2 hx hb hown (hts _ q976) dX7_alike_28 ?_
      refine lv_lload_n hx hb dX7_alike_31 rfl (lv_at hl 0 rfl) ?_
      refine lv_ldc2 hx hb hown (hts _ q1008) dX7_alike_32 ?_
      refine lv_lxor hx hb dX7_alike_35 ?_
      refine lv_land hx hb dX7_alike_36 ?_
      refine lv_aload_n hx hb dX7_alike_37 rfl (lv_at hl 1 rfl) ?_
      refine lv_iload_n hx hb dX7_alike_38 rfl (lv_at hl 2 rfl) ?_
      obtain ⟨r12, u11, e13, hF⟩ := bdL_some hF
      refine MM.callVl (m_X7_shows e13) k_X7_109 S emOK hEs hK ⟨by decide, by decide⟩ (va_recv hK hP rfl c_MO) rfl rfl hl.1 (Nat.le_of_ble_eq_true rfl) dX7_alike_39 ⟨Nat.le_refl _, Nat.le_refl _⟩ hP hD hS (fun H locs hP hD hS => ?_)
      refine lv_aload_n hx hb dX7_alike_42 rfl (lv_at hl 1 rfl) ?_
      refine lv_iload_n hx hb dX7_alike_43 rfl (lv_at hl 3 rfl) ?_
      obtain ⟨r15, u14, e16, hF⟩ := bdL_some hF
      refine MM.callVl (m_X7_shows e16) k_X7_109 S emOK hEs hK ⟨by decide, by decide⟩ (va_recv hK hP rfl c_MO) rfl rfl hl.1 (Nat.le_of_ble_eq_true rfl) dX7_alike_44 ⟨Nat.le_refl _, Nat.le_refl _⟩ hP hD hS (fun H locs hP hD hS => ?_)
      refine lv_lxor hx hb dX7_alike_47 ?_
      refine lv_ldc2 hx hb hown (hts _ q1008) dX7_alike_48 ?_
      refine lv_lxor hx hb dX7_alike_51 ?_
      refine lv_land hx hb dX7_alike_52 ?_
      obtain ⟨r18, u17, e19, hF⟩ := bdI_some hF
      refine MM.callSi (m_X7_many e19) k_X7_112 S emOK hEs hK ⟨by decide, by decide⟩ rfl rfl hl.1 (Nat.le_of_ble_eq_true rfl) dX7_alike_53 ⟨Nat.le_refl _, Nat.le_refl _⟩ hP hD hS (fun H locs hP hD hS => ?_)
      obtain ⟨rfl, rfl⟩ := sp_eq hF
      exact retI S hr hlocks hP hD hS dX7_alike_56
    · have hF := ite_t hF c4
      refine lv_aload_n hx hb dX7_alike_9 rfl (lv_at hl 0 rfl) ?_
      refine lv_ldc hx hb hown (hts _ q966) dX7_alike_10 ?_
      obtain ⟨r21, u20, e22, hF⟩ := bdI_some hF
      refine MM.callVi (m_X7_finds e22) k_X7_94 S emOK hEs hK ⟨by decide, by decide⟩ (va_recv hK hP rfl c_MO) rfl rfl hl.1 (Nat.le_of_ble_eq_true rfl) dX7_alike_12 ⟨Nat.le_refl _, Nat.le_refl _⟩ hP hD hS (fun H locs hP hD hS => ?_)
      obtain ⟨rfl, rfl⟩ := sp_eq hF
      exact retI S hr hlocks hP hD hS dX7_alike_15
  have hl := lv_entry ([.ref (a 0), .int x1, .int x2]) (n := 5) (Nat.le_of_ble_eq_true rfl)
  rw [lg_entry_eq]
  generalize (lg_sl ([.ref (a 0), .int x1, .int x2]) ++ List.replicate (5 - (lg_sl ([.ref (a 0), .int x1, .int x2])).length) Slot.unset).toArray = ls at hl ⊢
  exact b_main _ _ _ hP hD hS hl

set_option maxRecDepth 100000 in
set_option maxHeartbeats 4000000 in
theorem m_X7_slackFor  {x1 : Int32} {x2 : Int32} {u u' : Mem} {r : Int32}  (hF : F_X7_slackFor  u x1 x2 = some (r, u')) : MR l D cc a yX7_slackFor cX7_slackFor 5 (some .int) 4 89 [.ref (a 0), .int x1, .int x2] u (some (.int r)) u' := by
  refine MM.ofW (by decide) (fun p e s m below meth c S hr hlocks hK hEs hP hD hS => ?_)
  have S : CallFix p m c cX7_slackFor 5 s _ gtbl RX7 := S
  obtain ⟨hx, hb, hml, hown, hts⟩ := id S
  have b71 : ∀  (u : Mem) (y0 : Int32) , F_X7_slackFor_71  u y0 = some (r, u') → BW p l e s m below meth c 4 89 [.ref (a 0), .int x1, .int x2] D (AM a) (some (.int r)) (wlM cc a u') 5 (wlM cc a u) 71 [] [.int y0] := by
    intro  u y0 hF H locs ls hP hD hS hl
    unfold F_X7_slackFor_71 at hF
    obtain ⟨rfl, rfl⟩ := sp_eq hF
    exact retI S hr hlocks hP hD hS dX7_slackFor_71
  have b65 : ∀  (u : Mem)  , F_X7_slackFor_65  u  = some (r, u') → BW p l e s m below meth c 4 89 [.ref (a 0), .int x1, .int x2] D (AM a) (some (.int r)) (wlM cc a u') 5 (wlM cc a u) 65 [(0, .ref (a 0))] [] := by
    intro  u  hF H locs ls hP hD hS hl
    unfold F_X7_slackFor_65 at hF
    refine lv_aload_n hx hb dX7_slackFor_65 rfl (lv_at hl 0 rfl) ?_
    refine lv_ldc hx hb hown (hts _ q1079) dX7_slackFor_66 ?_
    obtain ⟨r2, u1, e3, hF⟩ := bdI_some hF
    refine MM.callVi (m_X7_finds e3) k_X7_94 S emOK hEs hK ⟨by decide, by decide⟩ (va_recv hK hP rfl c_MO) rfl rfl hl.1 (Nat.le_of_ble_eq_true rfl) dX7_slackFor_68 ⟨Nat.le_refl _, Nat.le_refl _⟩ hP hD hS (fun H locs hP hD hS => ?_)
    exact b71 _ _  hF H locs ls hP hD hS (lv_sub hl [] rfl)
  have b39 : ∀  (u : Mem) (v1 : Int32) (v2 : Int32) (y0 : Int32) , F_X7_slackFor_39  u v1 v2 y0 = some (r, u') → BW p l e s m below meth c 4 89 [.ref (a 0), .int x1, .int x2] D (AM a) (some (.int r)) (wlM cc a u') 5 (wlM cc a u) 39 [(0, .ref (a 0)), (1, .int v1), (2, .int v2)] [.int y0] := by
    intro  u v1 v2 y0 hF H locs ls hP hD hS hl
    unfold F_X7_slackFor_39 at hF
    refine lv_istore_n (lv' := [(3, .int _), (0, .ref _), (1, .int _), (2, .int _)]) hx hb dX7_slackFor_39 rfl hl (by decide) rfl (fun ls hl => ?_)
    refine lv_aload_n hx hb dX7_slackFor_40 rfl (lv_at hl 1 rfl) ?_
    refine lv_iload_n hx hb dX7_slackFor_41 rfl (lv_at hl 2 rfl) ?_
    refine lv_iload_n hx hb dX7_slackFor_42 rfl (lv_at hl 3 rfl) ?_
    obtain ⟨r5, u4, e6, hF⟩ := bdI_some hF
    refine MM.callVi (m_X7_apartBy e6) k_X7_127 S emOK hEs hK ⟨by decide, by decide⟩ (va_recv hK hP rfl c_MO) rfl rfl hl.1 (Nat.le_of_ble_eq_true rfl) dX7_slackFor_43 ⟨Nat.le_refl _, Nat.le_refl _⟩ hP hD hS (fun H locs hP hD hS => ?_)
    refine lv_istore (lv' := [(4, .int _), (3, .int _), (0, .ref _), (1, .int _), (2, .int _)]) hx hb dX7_slackFor_46 hl (by decide) rfl (fun ls hl => ?_)
    refine lv_iload_n hx hb dX7_slackFor_48 rfl (lv_at hl 1 rfl) ?_
    refine lv_if_eq (tgt := 65) hx hb dX7_slackFor_49 (by decide) (fun c7 => ?_) (fun c7 => ?_)
    · have hF := ite_t hF c7
      exact b65 _  hF H locs ls hP hD hS (lv_sub hl [2] rfl)
    · have hF := ite_f hF c7
      refine lv_iload hx hb dX7_slackFor_52 (lv_at hl 0 rfl) ?_
      refine lv_sipush (v := 999) hx hb dX7_slackFor_54 (by decide) ?_
      refine lv_icmp_gt (tgt := 65) hx hb dX7_slackFor_57 (by decide) (fun c8 => ?_) (fun c8 => ?_)
      · have hF := ite_t hF c8
        exact b65 _  hF H locs ls hP hD hS (lv_sub hl [2] rfl)
      · have hF := ite_f hF c8
        refine lv_iload hx hb dX7_slackFor_60 (lv_at hl 0 rfl) ?_
        refine lv_goto (tgt := 71) hx hb dX7_slackFor_62 (by decide) ?_
        exact b71 _ _  hF H locs ls hP hD hS (lv_sub hl [] rfl)
  have b34 : ∀  (u : Mem) (v1 : Int32) (v2 : Int32) , F_X7_slackFor_34  u v1 v2 = some (r, u') → BW p l e s m below meth c 4 89 [.ref (a 0), .int x1, .int x2] D (AM a) (some (.int r)) (wlM cc a u') 5 (wlM cc a u) 34 [(0, .ref (a 0)), (1, .int v1), (2, .int v2)] [] := by
    intro  u v1 v2 hF H locs ls hP hD hS hl
    unfold F_X7_slackFor_34 at hF
    refine lv_iconst (v := 1) hx hb dX7_slackFor_34 (by decide) ?_
    refine lv_goto (tgt := 39) hx hb dX7_slackFor_35 (by decide) ?_
    exact b39 _ _ _ _  hF H locs ls hP hD hS (lv_sub hl [0, 1, 2] rfl)
  unfold F_X7_slackFor at hF
  have b_main : BW p l e s m below meth c 4 89 [.ref (a 0), .int x1, .int x2] D (AM a) (some (.int r)) (wlM cc a u') 5 (wlM cc a u) 0 [(0, .ref (a 0)), (1, .int x1), (2, .int x2)] [] := by
    intro H locs ls hP hD hS hl
    refine lv_aload_n hx hb dX7_slackFor_0 rfl (lv_at hl 0 rfl) ?_
    refine lv_iload_n hx hb dX7_slackFor_1 rfl (lv_at hl 1 rfl) ?_
    refine lv_iload_n hx hb dX7_slackFor_2 rfl (lv_at hl 2 rfl) ?_
    obtain ⟨r10, u9, e11, hF⟩ := bdI_some hF
    refine MM.callVi (m_X7_areTwo e11) k_X7_130 S emOK hEs hK ⟨by decide, by decide⟩ (va_recv hK hP rfl c_MO) rfl rfl hl.1 (Nat.le_of_ble_eq_true rfl) dX7_slackFor_3 ⟨Nat.le_refl _, Nat.le_refl _⟩ hP hD hS (fun H locs hP hD hS => ?_)
    refine lv_if_ne (tgt := 16) hx hb dX7_slackFor_6 (by decide) (fun c12 => ?_) (fun c12 => ?_)
    · have hF := ite_f hF c12
      refine lv_aload_n hx hb dX7_slackFor_16 rfl (lv_at hl 0 rfl) ?_
      refine lv_iload_n hx hb dX7_slackFor_17 rfl (lv_at hl 1 rfl) ?_
      refine lv_iload_n hx hb dX7_slackFor_18 rfl (lv_at hl 2 rfl) ?_
      obtain ⟨r14, u13, e15, hF⟩ := bdI_some hF
      refine MM.callVi (m_X7_marksAllow e15) k_X7_124 S emOK hEs hK ⟨by decide, by decide⟩ (va_recv hK hP rfl c_MO) rfl rfl hl.1 (Nat.le_of_ble_eq_true rfl) dX7_slackFor_19 ⟨Nat.le_refl _, Nat.le_refl _⟩ hP hD hS (fun H locs hP hD hS => ?_)
      refine lv_if_ne (tgt := 34) hx hb dX7_slackFor_22 (by decide) (fun c16 => ?_) (fun c16 => ?_)
      · have hF := ite_f hF c16
        exact b34 _ _ _  hF H locs ls hP hD hS (lv_sub hl [0, 1, 2] rfl)
      · have hF := ite_t hF c16
        refine lv_aload_n hx hb dX7_slackFor_25 rfl (lv_at hl 0 rfl) ?_
        refine lv_iload_n hx hb dX7_slackFor_26 rfl (lv_at hl 2 rfl) ?_
        refine lv_iload_n hx hb dX7_slackFor_27 rfl (lv_at hl 1 rfl) ?_
        obtain ⟨r18, u17, e19, hF⟩ := bdI_some hF
        refine MM.callVi (m_X7_marksAllow e19) k_X7_124 S emOK hEs hK ⟨by decide, by decide⟩ (va_recv hK hP rfl c_MO) rfl rfl hl.1 (Nat.le_of_ble_eq_true rfl) dX7_slackFor_28 ⟨Nat.le_refl _, Nat.le_refl _⟩ hP hD hS (fun H locs hP hD hS => ?_)
        refine lv_if_eq (tgt := 38) hx hb dX7_slackFor_31 (by decide) (fun c20 => ?_) (fun c20 => ?_)
        · have hF := ite_t hF c20
          refine lv_iconst (v := 0) hx hb dX7_slackFor_38 (by decide) ?_
          exact b39 _ _ _ _  hF H locs ls hP hD hS (lv_sub hl [0, 1, 2] rfl)
        · have hF := ite_f hF c20
          exact b34 _ _ _  hF H locs ls hP hD hS (lv_sub hl [0, 1, 2] rfl)
    · have hF := ite_t hF c12
      refine lv_aload_n hx hb dX7_slackFor_9 rfl (lv_at hl 0 rfl) ?_
      refine lv_ldc hx hb hown (hts _ q966) dX7_slackFor_10 ?_
      obtain ⟨r22, u21, e23, hF⟩ := bdI_some hF
      refine MM.callVi (m_X7_finds e23) k_X7_94 S emOK hEs hK ⟨by decide, by decide⟩ (va_recv hK hP rfl c_MO) rfl rfl hl.1 (Nat.le_of_ble_eq_true rfl) dX7_slackFor_12 ⟨Nat.le_refl _, Nat.le_refl _⟩ hP hD hS (fun H locs hP hD hS => ?_)
      obtain ⟨rfl, rfl⟩ := sp_eq hF
      exact retI S hr hlocks hP hD hS dX7_slackFor_15
  have hl := lv_entry ([.ref (a 0), .int x1, .int x2]) (n := 5) (Nat.le_of_ble_eq_true rfl)
  rw [lg_entry_eq]
  generalize (lg_sl ([.ref (a 0), .int x1, .int x2]) ++ List.replicate (5 - (lg_sl ([.ref (a 0), .int x1, .int x2])).length) Slot.unset).toArray = ls at hl ⊢
  exact b_main _ _ _ hP hD hS hl

end
