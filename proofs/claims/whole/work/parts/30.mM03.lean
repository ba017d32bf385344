section
variable {l : Launch} {D : va_G} {cc : Nat → ClassId} {a : Nat → Nat}
set_option maxRecDepth 100000 in
set_option maxHeartbeats 4000000 in
theorem m_X7_undo   {u u' : Mem} {r : Int32}  (hF : F_X7_undo  u  = some (r, u')) : MR l D cc a yX7_undo cX7_undo 1 (some .int) 1 24 [.ref (a 0)] u (some (.int r)) u' := by
  refine MM.ofW (by decide) (fun p e s m below meth c S hr hlocks hK hEs hP hD hS => ?_)
  have S : CallFix p m c cX7_undo 1 s _ gtbl RX7 := S
  obtain ⟨hx, hb, hml, hown, hts⟩ := id S
  unfold F_X7_undo at hF
  have b_main : BW p l e s m below meth c 1 24 [.ref (a 0)] D (AM a) (some (.int r)) (wlM cc a u') 1 (wlM cc a u) 0 [(0, .ref (a 0))] [] := by
    intro H locs ls hP hD hS hl
    refine lv_aload_n hx hb dX7_undo_0 rfl (lv_at hl 0 rfl) ?_
    refine va_get_w S hK hP _ c_MO rfl igX7 24 (by decide) q903 rfl rfl dX7_undo_1 ?_
    refine lv_if_ne (tgt := 14) hx hb dX7_undo_4 (by decide) (fun c1 => ?_) (fun c1 => ?_)
    · have hF := ite_f hF c1
      refine lv_aload_n hx hb dX7_undo_14 rfl (lv_at hl 0 rfl) ?_
      refine lv_iconst (v := 0) hx hb dX7_undo_15 (by decide) ?_
      refine lv_aload_n hx hb dX7_undo_16 rfl (lv_at hl 0 rfl) ?_
      refine va_get_w S hK hP _ c_MO rfl igX7 20 (by decide) q899 rfl rfl dX7_undo_17 ?_
      refine lv_aload_n hx hb dX7_undo_20 rfl (lv_at hl 0 rfl) ?_
      refine va_get_w S hK hP _ c_MO rfl igX7 22 (by decide) q901 rfl rfl dX7_undo_21 ?_
      obtain ⟨u2, e4, hF⟩ := bdV_some hF
      refine MM.callVv (m_X7_moveAll ⟨rfl, by decide⟩ ⟨rfl, by decide⟩ e4) k_X7_280 S emOK hEs hK ⟨by decide, by decide⟩ (va_recv hK hP rfl c_MO) rfl rfl hl.1 (Nat.le_of_ble_eq_true rfl) dX7_undo_24 ⟨Nat.le_refl _, Nat.le_refl _⟩ hP hD hS (fun H locs hP hD hS => ?_)
      refine lv_aload_n hx hb dX7_undo_27 rfl (lv_at hl 0 rfl) ?_
      refine va_get_w S hK hP _ c_MO rfl igX7 0 (by decide) q879 rfl rfl dX7_undo_28 ?_
      refine lv_iconst (v := 0) hx hb dX7_undo_31 (by decide) ?_
      obtain ⟨hin5, hF⟩ := gd_some hF
      refine mIald S hK hP ⟨rfl, by decide⟩ rfl hin5 dX7_undo_32 ?_
      obtain ⟨rfl, rfl⟩ := sp_eq hF
      exact retI S hr hlocks hP hD hS dX7_undo_33
    · have hF := ite_t hF c1
      refine lv_aload_n hx hb dX7_undo_7 rfl (lv_at hl 0 rfl) ?_
      refine lv_ldc hx hb hown (hts _ q1079) dX7_undo_8 ?_
      obtain ⟨r7, u6, e8, hF⟩ := bdI_some hF
      refine MM.callVi (m_X7_finds e8) k_X7_94 S emOK hEs hK ⟨by decide, by decide⟩ (va_recv hK hP rfl c_MO) rfl rfl hl.1 (Nat.le_of_ble_eq_true rfl) dX7_undo_10 ⟨Nat.le_refl _, Nat.le_refl _⟩ hP hD hS (fun H locs hP hD hS => ?_)
      obtain ⟨rfl, rfl⟩ := sp_eq hF
      exact retI S hr hlocks hP hD hS dX7_undo_13
  have hl := lv_entry ([.ref (a 0)]) (n := 1) (Nat.le_of_ble_eq_true rfl)
  rw [lg_entry_eq]
  generalize (lg_sl ([.ref (a 0)]) ++ List.replicate (1 - (lg_sl ([.ref (a 0)])).length) Slot.unset).toArray = ls at hl ⊢
  exact b_main _ _ _ hP hD hS hl

set_option maxRecDepth 100000 in
set_option maxHeartbeats 4000000 in
theorem m_X7_tear   {u u' : Mem} {r : Int32}  (hF : F_X7_tear  u  = some (r, u')) : MR l D cc a yX7_tear cX7_tear 2 (some .int) 0 0 [.ref (a 0)] u (some (.int r)) u' := by
  refine MM.ofW (by decide) (fun p e s m below meth c S hr hlocks hK hEs hP hD hS => ?_)
  have S : CallFix p m c cX7_tear 2 s _ gtbl RX7 := S
  obtain ⟨hx, hb, hml, hown, hts⟩ := id S
  have b12 : ∀  (u : Mem) (y0 : Int32) , F_X7_tear_12  u y0 = some (r, u') → BW p l e s m below meth c 0 0 [.ref (a 0)] D (AM a) (some (.int r)) (wlM cc a u') 2 (wlM cc a u) 12 [(0, .ref (a 0))] [.int y0] := by
    intro  u y0 hF H locs ls hP hD hS hl
    unfold F_X7_tear_12 at hF
    refine lv_istore_n (lv' := [(1, .int _), (0, .ref _)]) hx hb dX7_tear_12 rfl hl (by decide) rfl (fun ls hl => ?_)
    refine lv_aload_n hx hb dX7_tear_13 rfl (lv_at hl 1 rfl) ?_
    refine lv_iconst (v := 0) hx hb dX7_tear_14 (by decide) ?_
    refine va_put_w S igX7 tyX7 tyX7_ok nmX7 hK hP hD hS _ c_MO rfl 24 (by decide) q903 rfl rfl (ty := .boolean) (tyX7_ok 24 (by decide)) (nz_ok (by decide)) (fz_ok (by decide)) (Nat.le_of_ble_eq_true rfl) (z_MO (by decide)) dX7_tear_15 (fun H locs hP hD hS => ?_)
    refine lv_iload_n hx hb dX7_tear_18 rfl (lv_at hl 0 rfl) ?_
    obtain ⟨rfl, rfl⟩ := sp_eq hF
    exact retI S hr hlocks hP hD hS dX7_tear_19
  unfold F_X7_tear at hF
  have b_main : BW p l e s m below meth c 0 0 [.ref (a 0)] D (AM a) (some (.int r)) (wlM cc a u') 2 (wlM cc a u) 0 [(0, .ref (a 0))] [] := by
    intro H locs ls hP hD hS hl
    refine lv_aload_n hx hb dX7_tear_0 rfl (lv_at hl 0 rfl) ?_
    refine va_get_w S hK hP _ c_MO rfl igX7 24 (by decide) q903 rfl rfl dX7_tear_1 ?_
    refine lv_if_eq (tgt := 11) hx hb dX7_tear_4 (by decide) (fun c1 => ?_) (fun c1 => ?_)
    · have hF := ite_t hF c1
      refine lv_iconst (v := 0) hx hb dX7_tear_11 (by decide) ?_
      exact b12 _ _  hF H locs ls hP hD hS (lv_sub hl [0] rfl)
    · have hF := ite_f hF c1
      refine lv_iconst (v := 1) hx hb dX7_tear_7 (by decide) ?_
      refine lv_goto (tgt := 12) hx hb dX7_tear_8 (by decide) ?_
      exact b12 _ _  hF H locs ls hP hD hS (lv_sub hl [0] rfl)
  have hl := lv_entry ([.ref (a 0)]) (n := 2) (Nat.le_of_ble_eq_true rfl)
  rw [lg_entry_eq]
  generalize (lg_sl ([.ref (a 0)]) ++ List.replicate (2 - (lg_sl ([.ref (a 0)])).length) Slot.unset).toArray = ls at hl ⊢
  exact b_main _ _ _ hP hD hS hl

set_option maxRecDepth 100000 in
set_option maxHeartbeats 4000000 in
theorem m_X7_count  {x1 : Int32} {u u' : Mem} {r : Int32}  (hF : F_X7_count  u x1 = some (r, u')) : MR l D cc a yX7_count cX7_count 4 (some .int) 1 24 [.ref (a 0), .int x1] u (some (.int r)) u' := by
  refine MM.ofW (by decide) (fun p e s m below meth c S hr hlocks hK hEs hP hD hS => ?_)
  have S : CallFix p m c cX7_count 4 s _ gtbl RX7 := S
  obtain ⟨hx, hb, hml, hown, hts⟩ := id S
  have b45 : ∀ (n : Nat) (u : Mem) (v2 : Int32) (v3 : Int32) , F_X7_count_45  n u v2 v3 = some (r, u') → BW p l e s m below meth c 1 24 [.ref (a 0), .int x1] D (AM a) (some (.int r)) (wlM cc a u') 4 (wlM cc a u) 45 [(0, .ref (a 0)), (2, .int v2), (3, .int v3)] [] := by
    intro n
    induction n with
    | zero => intro u v2 v3 hF; cases hF
    | succ n ih =>
      intro u v2 v3 hF H locs ls hP hD hS hl
      unfold F_X7_count_45 at hF
      refine lv_iload_n hx hb dX7_count_45 rfl (lv_at hl 2 rfl) ?_
      refine lv_aload_n hx hb dX7_count_46 rfl (lv_at hl 0 rfl) ?_
      refine va_get_w S hK hP _ c_MO rfl igX7 0 (by decide) q879 rfl rfl dX7_count_47 ?_
      refine lv_iconst (v := 0) hx hb dX7_count_50 (by decide) ?_
      obtain ⟨hin1, hF⟩ := gd_some hF
      refine mIald S hK hP ⟨rfl, by decide⟩ rfl hin1 dX7_count_51 ?_
      refine lv_icmp_ge (tgt := 70) hx hb dX7_count_52 (by decide) (fun c2 => ?_) (fun c2 => ?_)
      · have hF := ite_t hF c2
        refine lv_iload_n hx hb dX7_count_70 rfl (lv_at hl 1 rfl) ?_
        obtain ⟨rfl, rfl⟩ := sp_eq hF
        exact retI S hr hlocks hP hD hS dX7_count_71
      · have hF := ite_f hF c2
        refine lv_iload_n hx hb dX7_count_55 rfl (lv_at hl 1 rfl) ?_
        refine lv_aload_n hx hb dX7_count_56 rfl (lv_at hl 0 rfl) ?_
        refine lv_iload_n hx hb dX7_count_57 rfl (lv_at hl 2 rfl) ?_
        refine lv_iconst (v := 3) hx hb dX7_count_58 (by decide) ?_
        obtain ⟨r4, u3, e5, hF⟩ := bdI_some hF
        refine MM.callVi (m_X7_its e5) k_X7_68 S emOK hEs hK ⟨by decide, by decide⟩ (va_recv hK hP rfl c_MO) rfl rfl hl.1 (Nat.le_of_ble_eq_true rfl) dX7_count_59 ⟨Nat.le_refl _, Nat.le_refl _⟩ hP hD hS (fun H locs hP hD hS => ?_)
        refine lv_iadd hx hb dX7_count_62 ?_
        refine lv_istore_n (lv' := [(2, .int _), (0, .ref _), (3, .int _)]) hx hb dX7_count_63 rfl hl (by decide) rfl (fun ls hl => ?_)
        refine lv_inc1 (k := 2) (lv' := [(3, .int _), (2, .int _), (0, .ref _)]) hx hb dX7_count_64 hl rfl (by decide) rfl (fun ls hl => ?_)
        refine lv_goto (tgt := 45) hx hb dX7_count_67 (by decide) ?_
        exact ih _ _ _  hF H locs ls hP hD hS (lv_sub hl [2, 1, 0] rfl)
  have b86 : ∀ (n : Nat) (u : Mem) (v2 : Int32) (v3 : Int32) , F_X7_count_86  n u v2 v3 = some (r, u') → BW p l e s m below meth c 1 24 [.ref (a 0), .int x1] D (AM a) (some (.int r)) (wlM cc a u') 4 (wlM cc a u) 86 [(0, .ref (a 0)), (2, .int v2), (3, .int v3)] [] := by
    intro n
    induction n with
    | zero => intro u v2 v3 hF; cases hF
    | succ n ih =>
      intro u v2 v3 hF H locs ls hP hD hS hl
      unfold F_X7_count_86 at hF
      refine lv_iload_n hx hb dX7_count_86 rfl (lv_at hl 2 rfl) ?_
      refine lv_aload_n hx hb dX7_count_87 rfl (lv_at hl 0 rfl) ?_
      refine va_get_w S hK hP _ c_MO rfl igX7 0 (by decide) q879 rfl rfl dX7_count_88 ?_
      refine lv_iconst (v := 0) hx hb dX7_count_91 (by decide) ?_
      obtain ⟨hin6, hF⟩ := gd_some hF
      refine mIald S hK hP ⟨rfl, by decide⟩ rfl hin6 dX7_count_92 ?_
      refine lv_icmp_ge (tgt := 114) hx hb dX7_count_93 (by decide) (fun c7 => ?_) (fun c7 => ?_)
      · have hF := ite_t hF c7
        refine lv_iload_n hx hb dX7_count_114 rfl (lv_at hl 1 rfl) ?_
        obtain ⟨rfl, rfl⟩ := sp_eq hF
        exact retI S hr hlocks hP hD hS dX7_count_115
      · have hF := ite_f hF c7
        refine lv_iload_n hx hb dX7_count_96 rfl (lv_at hl 1 rfl) ?_
        refine lv_aload_n hx hb dX7_count_97 rfl (lv_at hl 0 rfl) ?_
        refine va_get_w S hK hP _ c_MO rfl igX7 1 (by decide) q880 rfl rfl dX7_count_98 ?_
        refine lv_iload_n hx hb dX7_count_101 rfl (lv_at hl 2 rfl) ?_
        obtain ⟨hin8, hF⟩ := gd_some hF
        refine mLald S hK hP ⟨rfl, by decide⟩ rfl hin8 dX7_count_102 ?_
        obtain ⟨r10, u9, e11, hF⟩ := bdI_some hF
        refine MM.callSi (m_X7_many e11) k_X7_112 S emOK hEs hK ⟨by decide, by decide⟩ rfl rfl hl.1 (Nat.le_of_ble_eq_true rfl) dX7_count_103 ⟨Nat.le_refl _, Nat.le_refl _⟩ hP hD hS (fun H locs hP hD hS => ?_)
        refine lv_iadd hx hb dX7_count_106 ?_
        refine lv_istore_n (lv' := [(2, .int _), (0, .ref _), (3, .int _)]) hx hb dX7_count_107 rfl hl (by decide) rfl (fun ls hl => ?_)
        refine lv_inc1 (k := 2) (lv' := [(3, .int _), (2, .int _), (0, .ref _)]) hx hb dX7_count_108 hl rfl (by decide) rfl (fun ls hl => ?_)
        refine lv_goto (tgt := 86) hx hb dX7_count_111 (by decide) ?_
        exact ih _ _ _  hF H locs ls hP hD hS (lv_sub hl [2, 1, 0] rfl)
  unfold F_X7_count at hF
  have b_main : BW p l e s m below meth c 1 24 [.ref (a 0), .int x1] D (AM a) (some (.int r)) (wlM cc a u') 4 (wlM cc a u) 0 [(0, .ref (a 0)), (1, .int x1)] [] := by
    intro H locs ls hP hD hS hl
    refine lv_iconst (v := 0) hx hb dX7_count_0 (by decide) ?_
    refine lv_istore_n (lv' := [(2, .int _), (0, .ref _), (1, .int _)]) hx hb dX7_count_1 rfl hl (by decide) rfl (fun ls hl => ?_)
    refine lv_iload_n hx hb dX7_count_2 rfl (lv_at hl 2 rfl) ?_
    by_cases w12 : x1 = 0
    · have hF := ite_t hF w12
      refine lv_tableIn (off := 33) (tgt := 36) hx hb dX7_count_3 (by rw [w12]; decide) (by rw [w12]; decide) (by rw [w12]; rfl) (by decide) ?_
      refine lv_aload_n hx hb dX7_count_36 rfl (lv_at hl 1 rfl) ?_
      refine va_get_w S hK hP _ c_MO rfl igX7 0 (by decide) q879 rfl rfl dX7_count_37 ?_
      refine lv_iconst (v := 0) hx hb dX7_count_40 (by decide) ?_
      obtain ⟨hin13, hF⟩ := gd_some hF
      refine mIald S hK hP ⟨rfl, by decide⟩ rfl hin13 dX7_count_41 ?_
      obtain ⟨rfl, rfl⟩ := sp_eq hF
      exact retI S hr hlocks hP hD hS dX7_count_42
    · have hF := ite_f hF w12
      by_cases w14 : x1 = 1
      · have hF := ite_t hF w14
        refine lv_tableIn (off := 40) (tgt := 43) hx hb dX7_count_3 (by rw [w14]; decide) (by rw [w14]; decide) (by rw [w14]; rfl) (by decide) ?_
        refine lv_iconst (v := 0) hx hb dX7_count_43 (by decide) ?_
        refine lv_istore_n (lv' := [(3, .int _), (2, .int _), (0, .ref _), (1, .int _)]) hx hb dX7_count_44 rfl hl (by decide) rfl (fun ls hl => ?_)
        exact b45 _ _ _ _  hF H locs ls hP hD hS (lv_sub hl [2, 1, 0] rfl)
      · have hF := ite_f hF w14
        by_cases w15 : x1 = 2
        · have hF := ite_t hF w15
          refine lv_tableIn (off := 69) (tgt := 72) hx hb dX7_count_3 (by rw [w15]; decide) (by rw [w15]; decide) (by rw [w15]; rfl) (by decide) ?_
          refine lv_aload_n hx hb dX7_count_72 rfl (lv_at hl 1 rfl) ?_
          refine va_get_w S hK hP _ c_MO rfl igX7 9 (by decide) q888 rfl rfl dX7_count_73 ?_
          obtain ⟨rfl, rfl⟩ := sp_eq hF
          exact retI S hr hlocks hP hD hS dX7_count_76
        · have hF := ite_f hF w15
          by_cases w16 : x1 = 3
          · have hF := ite_t hF w16
            refine lv_tableIn (off := 74) (tgt := 77) hx hb dX7_count_3 (by rw [w16]; decide) (by rw [w16]; decide) (by rw [w16]; rfl) (by decide) ?_
            refine lv_aload_n hx hb dX7_count_77 rfl (lv_at hl 1 rfl) ?_
            refine va_get_w S hK hP _ c_MO rfl igX7 0 (by decide) q879 rfl rfl dX7_count_78 ?_
            refine lv_iconst (v := 1) hx hb dX7_count_81 (by decide) ?_
            obtain ⟨hin17, hF⟩ := gd_some hF
            refine mIald S hK hP ⟨rfl, by decide⟩ rfl hin17 dX7_count_82 ?_
            obtain ⟨rfl, rfl⟩ := sp_eq hF
            exact retI S hr hlocks hP hD hS dX7_count_83
          · have hF := ite_f hF w16
            by_cases w18 : x1 = 4
            · have hF := ite_t hF w18
              refine lv_tableIn (off := 81) (tgt := 84) hx hb dX7_count_3 (by rw [w18]; decide) (by rw [w18]; decide) (by rw [w18]; rfl) (by decide) ?_
              refine lv_iconst (v := 0) hx hb dX7_count_84 (by decide) ?_
              refine lv_istore_n (lv' := [(3, .int _), (2, .int _), (0, .ref _), (1, .int _)]) hx hb dX7_count_85 rfl hl (by decide) rfl (fun ls hl => ?_)
              exact b86 _ _ _ _  hF H locs ls hP hD hS (lv_sub hl [2, 1, 0] rfl)
            · have hF := ite_f hF w18
              refine lv_tableOut (tgt := 116) hx hb dX7_count_3 (by have zw12 := ne_toInt (z := 0) w12 (by decide); have zw14 := ne_toInt (z := 1) w14 (by decide); have zw15 := ne_toInt (z := 2) w15 (by decide); have zw16 := ne_toInt (z := 3) w16 (by decide); have zw18 := ne_toInt (z := 4) w18 (by decide); omega) (by decide) ?_
              refine lv_aload_n hx hb dX7_count_116 rfl (lv_at hl 1 rfl) ?_
              refine lv_ldc hx hb hown (hts _ q966) dX7_count_117 ?_
              obtain ⟨r20, u19, e21, hF⟩ := bdI_some hF
              refine MM.callVi (m_X7_finds e21) k_X7_94 S emOK hEs hK ⟨by decide, by decide⟩ (va_recv hK hP rfl c_MO) rfl rfl hl.1 (Nat.le_of_ble_eq_true rfl) dX7_count_119 ⟨Nat.le_refl _, Nat.le_refl _⟩ hP hD hS (fun H locs hP hD hS => ?_)
              obtain ⟨rfl, rfl⟩ := sp_eq hF
              exact retI S hr hlocks hP hD hS dX7_count_122
  have hl := lv_entry ([.ref (a 0), .int x1]) (n := 4) (Nat.le_of_ble_eq_true rfl)
  rw [lg_entry_eq]
  generalize (lg_sl ([.ref (a 0), .int x1]) ++ List.replicate (4 - (lg_sl ([.ref (a 0), .int x1])).length) Slot.unset).toArray = ls at hl ⊢
  exact b_main _ _ _ hP hD hS hl

set_option maxRecDepth 100000 in
set_option maxHeartbeats 4000000 in
theorem m_X7_status  {x1 : Int32} {u u' : Mem} {r : Int32}  (hF : F_X7_status  u x1 = some (r, u')) : MR l D cc a yX7_status cX7_status 4 (some .int) 1 22 [.ref (a 0), .int x1] u (some (.int r)) u' := by
  refine MM.ofW (by decide) (fun p e s m below meth c S hr hlocks hK hEs hP hD hS => ?_)
  have S : CallFix p m c cX7_status 4 s _ gtbl RX7 := S
  obtain ⟨hx, hb, hml, hown, hts⟩ := id S
  have b64 : ∀  (u : Mem) (y0 : Int32) , F_X7_status_64  u y0 = some (r, u') → BW p l e s m below meth c 1 22 [.ref (a 0), .int x1] D (AM a) (some (.int r)) (wlM cc a u') 4 (wlM cc a u) 64 [] [.int y0] := by
    intro  u y0 hF H locs ls hP hD hS hl
    unfold F_X7_status_64 at hF
    obtain ⟨rfl, rfl⟩ := sp_eq hF
    exact retI S hr hlocks hP hD hS dX7_status_64
  have b63 : ∀  (u : Mem) (y1 : Int32) , F_X7_status_63  u y1 = some (r, u') → BW p l e s m below meth c 1 22 [.ref (a 0), .int x1] D (AM a) (some (.int r)) (wlM cc a u') 4 (wlM cc a u) 63 [] [.int y1, .ref (a 3)] := by
    intro  u y1 hF H locs ls hP hD hS hl
    unfold F_X7_status_63 at hF
    obtain ⟨hin1, hF⟩ := gd_some hF
    refine mIald S hK hP ⟨rfl, by decide⟩ rfl hin1 dX7_status_63 ?_
    exact b64 _ _  hF H locs ls hP hD hS (lv_sub hl [] rfl)
  have b21 : ∀ (n : Nat) (u : Mem) (v1 : Int32) (v2 : Int32) (v3 : Int32) , F_X7_status_21  n u v1 v2 v3 = some (r, u') → BW p l e s m below meth c 1 22 [.ref (a 0), .int x1] D (AM a) (some (.int r)) (wlM cc a u') 4 (wlM cc a u) 21 [(0, .ref (a 0)), (1, .int v1), (2, .int v2), (3, .int v3)] [] := by
    intro n
    induction n with
    | zero => intro u v1 v2 v3 hF; cases hF
    | succ n ih =>
      intro u v1 v2 v3 hF H locs ls hP hD hS hl
      unfold F_X7_status_21 at hF
      refine lv_iload_n hx hb dX7_status_21 rfl (lv_at hl 3 rfl) ?_
      refine lv_bipush (v := 7) hx hb dX7_status_22 (by decide) ?_
      refine lv_icmp_ge (tgt := 42) hx hb dX7_status_24 (by decide) (fun c2 => ?_) (fun c2 => ?_)
      · have hF := ite_t hF c2
        refine lv_iload_n hx hb dX7_status_42 rfl (lv_at hl 1 rfl) ?_
        refine lv_if_ge (tgt := 50) hx hb dX7_status_43 (by decide) (fun c3 => ?_) (fun c3 => ?_)
        · have hF := ite_t hF c3
          refine lv_aload_n hx hb dX7_status_50 rfl (lv_at hl 0 rfl) ?_
          refine va_get_w S hK hP _ c_MO rfl igX7 2 (by decide) q881 rfl rfl dX7_status_51 ?_
          refine lv_iload_n hx hb dX7_status_54 rfl (lv_at hl 1 rfl) ?_
          refine lv_if_ge (tgt := 62) hx hb dX7_status_55 (by decide) (fun c4 => ?_) (fun c4 => ?_)
          · have hF := ite_t hF c4
            refine lv_iload_n hx hb dX7_status_62 rfl (lv_at hl 1 rfl) ?_
            exact b63 _ _  hF H locs ls hP hD hS (lv_sub hl [] rfl)
          · have hF := ite_f hF c4
            refine lv_iconst (v := 0) hx hb dX7_status_58 (by decide) ?_
            refine lv_goto (tgt := 63) hx hb dX7_status_59 (by decide) ?_
            exact b63 _ _  hF H locs ls hP hD hS (lv_sub hl [] rfl)
        · have hF := ite_f hF c3
          refine lv_iload_n hx hb dX7_status_46 rfl (lv_at hl 2 rfl) ?_
          refine lv_goto (tgt := 64) hx hb dX7_status_47 (by decide) ?_
          exact b64 _ _  hF H locs ls hP hD hS (lv_sub hl [] rfl)
      · have hF := ite_f hF c2
        refine lv_iload_n hx hb dX7_status_27 rfl (lv_at hl 2 rfl) ?_
        refine lv_aload_n hx hb dX7_status_28 rfl (lv_at hl 0 rfl) ?_
        refine va_get_w S hK hP _ c_MO rfl igX7 2 (by decide) q881 rfl rfl dX7_status_29 ?_
        refine lv_iload_n hx hb dX7_status_32 rfl (lv_at hl 3 rfl) ?_
        obtain ⟨hin5, hF⟩ := gd_some hF
        refine mIald S hK hP ⟨rfl, by decide⟩ rfl hin5 dX7_status_33 ?_
        refine lv_iadd hx hb dX7_status_34 ?_
        refine lv_istore_n (lv' := [(2, .int _), (0, .ref _), (1, .int _), (3, .int _)]) hx hb dX7_status_35 rfl hl (by decide) rfl (fun ls hl => ?_)
        refine lv_inc1 (k := 3) (lv' := [(3, .int _), (2, .int _), (0, .ref _), (1, .int _)]) hx hb dX7_status_36 hl rfl (by decide) rfl (fun ls hl => ?_)
        refine lv_goto (tgt := 21) hx hb dX7_status_39 (by decide) ?_
        exact ih _ _ _ _  hF H locs ls hP hD hS (lv_sub hl [2, 3, 1, 0] rfl)
  unfold F_X7_status at hF
  have b_main : BW p l e s m below meth c 1 22 [.ref (a 0), .int x1] D (AM a) (some (.int r)) (wlM cc a u') 4 (wlM cc a u) 0 [(0, .ref (a 0)), (1, .int x1)] [] := by
    intro H locs ls hP hD hS hl
    refine lv_iload_n hx hb dX7_status_0 rfl (lv_at hl 1 rfl) ?_
    refine lv_iconst (v := -1) hx hb dX7_status_1 (by decide) ?_
    refine lv_bipush (v := 6) hx hb dX7_status_2 (by decide) ?_
    obtain ⟨r7, u6, e8, hF⟩ := bdI_some hF
    refine MM.callSi (m_X7_in e8) k_X7_64 S emOK hEs hK ⟨by decide, by decide⟩ rfl rfl hl.1 (Nat.le_of_ble_eq_true rfl) dX7_status_4 ⟨Nat.le_refl _, Nat.le_refl _⟩ hP hD hS (fun H locs hP hD hS => ?_)
    refine lv_if_ne (tgt := 17) hx hb dX7_status_7 (by decide) (fun c9 => ?_) (fun c9 => ?_)
    · have hF := ite_f hF c9
      refine lv_iconst (v := 0) hx hb dX7_status_17 (by decide) ?_
      refine lv_istore_n (lv' := [(2, .int _), (0, .ref _), (1, .int _)]) hx hb dX7_status_18 rfl hl (by decide) rfl (fun ls hl => ?_)
      refine lv_iconst (v := 0) hx hb dX7_status_19 (by decide) ?_
      refine lv_istore_n (lv' := [(3, .int _), (2, .int _), (0, .ref _), (1, .int _)]) hx hb dX7_status_20 rfl hl (by decide) rfl (fun ls hl => ?_)
      exact b21 _ _ _ _ _  hF H locs ls hP hD hS (lv_sub hl [2, 3, 1, 0] rfl)
    · have hF := ite_t hF c9
      refine lv_aload_n hx hb dX7_status_10 rfl (lv_at hl 0 rfl) ?_
      refine lv_ldc hx hb hown (hts _ q966) dX7_status_11 ?_
      obtain ⟨r11, u10, e12, hF⟩ := bdI_some hF
      refine MM.callVi (m_X7_finds e12) k_X7_94 S emOK hEs hK ⟨by decide, by decide⟩ (va_recv hK hP rfl c_MO) rfl rfl hl.1 (Nat.le_of_ble_eq_true rfl) dX7_status_13 ⟨Nat.le_refl _, Nat.le_refl _⟩ hP hD hS (fun H locs hP hD hS => ?_)
      obtain ⟨rfl, rfl⟩ := sp_eq hF
      exact retI S hr hlocks hP hD hS dX7_status_16
  have hl := lv_entry ([.ref (a 0), .int x1]) (n := 4) (Nat.le_of_ble_eq_true rfl)
  rw [lg_entry_eq]
  generalize (lg_sl ([.ref (a 0), .int x1]) ++ List.replicate (4 - (lg_sl ([.ref (a 0), .int x1])).length) Slot.unset).toArray = ls at hl ⊢
  exact b_main _ _ _ hP hD hS hl

end
