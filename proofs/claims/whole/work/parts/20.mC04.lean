section
variable {l : Launch} {D : va_G} {cc : Nat → ClassId} {a : Nat → Nat} {tU : Nat} {adK adV : Nat → Nat}
set_option maxRecDepth 100000 in
set_option maxHeartbeats 4000000 in
theorem m_X0_howManyMarks {x0 : Nat}  {u u' : Mem} {r : Int32} (hx0 : 1 ≤ x0 ∧ x0 ≤ 3) (hF : F_X0_howManyMarks x0 u  = some (r, u')) : MC l D cc a tU adK adV yX0_howManyMarks cX0_howManyMarks 3 (some .int) 1 21 [.ref (a (x0 + 3))] u (some (.int r)) u' := by
  refine MM.ofW (by decide) (fun p e s m below meth c S hr hlocks hK hEs hP hD hS => ?_)
  have S : CallFix p m c cX0_howManyMarks 3 s _ gtbl RX0 := S
  obtain ⟨hx, hb, hml, hown, hts⟩ := id S
  have b4 : ∀ (n : Nat) (u : Mem) (v0 : Nat) (v1 : Int32) (v2 : Int32) (hv0 : 1 ≤ v0 ∧ v0 ≤ 3), F_X0_howManyMarks_4  n u v0 v1 v2 = some (r, u') → BW p l e s m below meth c 1 21 [.ref (a (x0 + 3))] D (AC a) (some (.int r)) (wlC cc a u') 3 (wlC cc a u) 4 [(0, .ref (a (v0 + 3))), (1, .int v1), (2, .int v2)] [] := by
    intro n
    induction n with
    | zero => intro u v0 v1 v2 hv0 hF; cases hF
    | succ n ih =>
      intro u v0 v1 v2 hv0 hF H locs ls hP hD hS hl
      unfold F_X0_howManyMarks_4 at hF
      refine lv_iload_n hx hb dX0_howManyMarks_4 rfl (lv_at hl 2 rfl) ?_
      refine lv_aload_n hx hb dX0_howManyMarks_5 rfl (lv_at hl 0 rfl) ?_
      refine va_get_w S hK hP _ (c_AR hv0) rfl igX0 1 (by decide) q138 rfl rfl dX0_howManyMarks_6 ?_
      refine lv_icmp_ge (tgt := 33) hx hb dX0_howManyMarks_9 (by decide) (fun c1 => ?_) (fun c1 => ?_)
      · have hF := ite_t hF c1
        refine lv_iload_n hx hb dX0_howManyMarks_33 rfl (lv_at hl 1 rfl) ?_
        obtain ⟨rfl, rfl⟩ := sp_eq hF
        exact retI S hr hlocks hP hD hS dX0_howManyMarks_34
      · have hF := ite_f hF c1
        refine lv_iload_n hx hb dX0_howManyMarks_12 rfl (lv_at hl 1 rfl) ?_
        refine lv_aload_n hx hb dX0_howManyMarks_13 rfl (lv_at hl 0 rfl) ?_
        refine va_get_w S hK hP _ (c_AR hv0) rfl igX0 0 (by decide) q134 rfl rfl dX0_howManyMarks_14 ?_
        refine lv_iload_n hx hb dX0_howManyMarks_17 rfl (lv_at hl 2 rfl) ?_
        obtain ⟨hin2, hF⟩ := gd_some hF
        have hp3 := r_PR (t := v0) hv0 hin2
        refine cPald S hK hP hv0 hin2 dX0_howManyMarks_18 ?_
        refine va_get_w S hK hP _ (c_PR hp3) rfl igX1 4 (by decide) q122 rfl rfl dX0_howManyMarks_19 ?_
        obtain ⟨r5, u4, e6, hF⟩ := bdI_some hF
        refine MM.callSi (m_J13_bitCount_95d88 e6) k_X0_96 S ecOK hEs hK ⟨by decide, by decide⟩ rfl rfl hl.1 (Nat.le_of_ble_eq_true rfl) dX0_howManyMarks_22 ⟨Nat.le_refl _, Nat.le_refl _⟩ hP hD hS (fun H locs hP hD hS => ?_)
        refine lv_iadd hx hb dX0_howManyMarks_25 ?_
        refine lv_istore_n (lv' := [(1, .int _), (0, .ref _), (2, .int _)]) hx hb dX0_howManyMarks_26 rfl hl (by decide) rfl (fun ls hl => ?_)
        refine lv_inc1 (k := 2) (lv' := [(2, .int _), (1, .int _), (0, .ref _)]) hx hb dX0_howManyMarks_27 hl rfl (by decide) rfl (fun ls hl => ?_)
        refine lv_goto (tgt := 4) hx hb dX0_howManyMarks_30 (by decide) ?_
        exact ih _ _ _ _ hv0 hF H locs ls hP hD hS (lv_sub hl [2, 1, 0] rfl)
  unfold F_X0_howManyMarks at hF
  have b_main : BW p l e s m below meth c 1 21 [.ref (a (x0 + 3))] D (AC a) (some (.int r)) (wlC cc a u') 3 (wlC cc a u) 0 [(0, .ref (a (x0 + 3)))] [] := by
    intro H locs ls hP hD hS hl
    refine lv_iconst (v := 0) hx hb dX0_howManyMarks_0 (by decide) ?_
    refine lv_istore_n (lv' := [(1, .int _), (0, .ref _)]) hx hb dX0_howManyMarks_1 rfl hl (by decide) rfl (fun ls hl => ?_)
    refine lv_iconst (v := 0) hx hb dX0_howManyMarks_2 (by decide) ?_
    refine lv_istore_n (lv' := [(2, .int _), (1, .int _), (0, .ref _)]) hx hb dX0_howManyMarks_3 rfl hl (by decide) rfl (fun ls hl => ?_)
    exact b4 _ _ _ _ _ hx0 hF H locs ls hP hD hS (lv_sub hl [2, 1, 0] rfl)
  have hl := lv_entry ([.ref (a (x0 + 3))]) (n := 3) (Nat.le_of_ble_eq_true rfl)
  rw [lg_entry_eq]
  generalize (lg_sl ([.ref (a (x0 + 3))]) ++ List.replicate (3 - (lg_sl ([.ref (a (x0 + 3))])).length) Slot.unset).toArray = ls at hl ⊢
  exact b_main _ _ _ hP hD hS hl

set_option maxRecDepth 100000 in
set_option maxHeartbeats 4000000 in
theorem m_X6_count  {x1 : Int32} {u u' : Mem} {r : Int32}  (hF : F_X6_count  u x1 = some (r, u')) : MC l D cc a tU adK adV yX6_count cX6_count 2 (some .int) 2 43 [.ref (a 0), .int x1] u (some (.int r)) u' := by
  refine MM.ofW (by decide) (fun p e s m below meth c S hr hlocks hK hEs hP hD hS => ?_)
  have S : CallFix p m c cX6_count 2 s _ gtbl RX6 := S
  obtain ⟨hx, hb, hml, hown, hts⟩ := id S
  unfold F_X6_count at hF
  have b_main : BW p l e s m below meth c 2 43 [.ref (a 0), .int x1] D (AC a) (some (.int r)) (wlC cc a u') 2 (wlC cc a u) 0 [(0, .ref (a 0)), (1, .int x1)] [] := by
    intro H locs ls hP hD hS hl
    refine lv_iload_n hx hb dX6_count_0 rfl (lv_at hl 1 rfl) ?_
    by_cases w1 : x1 = 0
    · have hF := ite_t hF w1
      refine lv_tableIn (off := 35) (tgt := 36) hx hb dX6_count_1 (by rw [w1]; decide) (by rw [w1]; decide) (by rw [w1]; rfl) (by decide) ?_
      refine lv_aload_n hx hb dX6_count_36 rfl (lv_at hl 0 rfl) ?_
      refine va_get_w S hK hP _ c_SP rfl igX6 0 (by decide) q259 rfl rfl dX6_count_37 ?_
      refine va_get_w S hK hP _ (c_AR ⟨by decide, by decide⟩) rfl igX0 1 (by decide) q141 rfl rfl dX6_count_40 ?_
      obtain ⟨rfl, rfl⟩ := sp_eq hF
      exact retI S hr hlocks hP hD hS dX6_count_43
    · have hF := ite_f hF w1
      by_cases w2 : x1 = 1
      · have hF := ite_t hF w2
        refine lv_tableIn (off := 43) (tgt := 44) hx hb dX6_count_1 (by rw [w2]; decide) (by rw [w2]; decide) (by rw [w2]; rfl) (by decide) ?_
        refine lv_aload_n hx hb dX6_count_44 rfl (lv_at hl 0 rfl) ?_
        refine va_get_w S hK hP _ c_SP rfl igX6 0 (by decide) q259 rfl rfl dX6_count_45 ?_
        obtain ⟨r4, u3, e5, hF⟩ := bdI_some hF
        refine MM.callVi (m_X0_howManySeen ⟨by decide, by decide⟩ e5) k_X6_273 S ecOK hEs hK ⟨by decide, by decide⟩ (va_recv hK hP rfl (c_AR ⟨by decide, by decide⟩)) rfl rfl hl.1 (Nat.le_of_ble_eq_true rfl) dX6_count_48 ⟨Nat.le_refl _, Nat.le_refl _⟩ hP hD hS (fun H locs hP hD hS => ?_)
        obtain ⟨rfl, rfl⟩ := sp_eq hF
        exact retI S hr hlocks hP hD hS dX6_count_51
      · have hF := ite_f hF w2
        by_cases w6 : x1 = 2
        · have hF := ite_t hF w6
          refine lv_tableIn (off := 51) (tgt := 52) hx hb dX6_count_1 (by rw [w6]; decide) (by rw [w6]; decide) (by rw [w6]; rfl) (by decide) ?_
          refine lv_aload_n hx hb dX6_count_52 rfl (lv_at hl 0 rfl) ?_
          refine va_get_w S hK hP _ c_SP rfl igX6 3 (by decide) q262 rfl rfl dX6_count_53 ?_
          refine va_get_w S hK hP _ c_TA rfl igX4 1 (by decide) q202 rfl rfl dX6_count_56 ?_
          obtain ⟨rfl, rfl⟩ := sp_eq hF
          exact retI S hr hlocks hP hD hS dX6_count_59
        · have hF := ite_f hF w6
          by_cases w7 : x1 = 3
          · have hF := ite_t hF w7
            refine lv_tableIn (off := 59) (tgt := 60) hx hb dX6_count_1 (by rw [w7]; decide) (by rw [w7]; decide) (by rw [w7]; rfl) (by decide) ?_
            refine lv_aload_n hx hb dX6_count_60 rfl (lv_at hl 0 rfl) ?_
            refine va_get_w S hK hP _ c_SP rfl igX6 0 (by decide) q259 rfl rfl dX6_count_61 ?_
            refine va_get_w S hK hP _ (c_AR ⟨by decide, by decide⟩) rfl igX0 2 (by decide) q144 rfl rfl dX6_count_64 ?_
            obtain ⟨rfl, rfl⟩ := sp_eq hF
            exact retI S hr hlocks hP hD hS dX6_count_67
          · have hF := ite_f hF w7
            by_cases w8 : x1 = 4
            · have hF := ite_t hF w8
              refine lv_tableIn (off := 67) (tgt := 68) hx hb dX6_count_1 (by rw [w8]; decide) (by rw [w8]; decide) (by rw [w8]; rfl) (by decide) ?_
              refine lv_aload_n hx hb dX6_count_68 rfl (lv_at hl 0 rfl) ?_
              refine va_get_w S hK hP _ c_SP rfl igX6 0 (by decide) q259 rfl rfl dX6_count_69 ?_
              obtain ⟨r10, u9, e11, hF⟩ := bdI_some hF
              refine MM.callVi (m_X0_howManyMarks ⟨by decide, by decide⟩ e11) k_X6_276 S ecOK hEs hK ⟨by decide, by decide⟩ (va_recv hK hP rfl (c_AR ⟨by decide, by decide⟩)) rfl rfl hl.1 (Nat.le_of_ble_eq_true rfl) dX6_count_72 ⟨Nat.le_refl _, Nat.le_refl _⟩ hP hD hS (fun H locs hP hD hS => ?_)
              obtain ⟨rfl, rfl⟩ := sp_eq hF
              exact retI S hr hlocks hP hD hS dX6_count_75
            · have hF := ite_f hF w8
              refine lv_tableOut (tgt := 76) hx hb dX6_count_1 (by have zw1 := ne_toInt (z := 0) w1 (by decide); have zw2 := ne_toInt (z := 1) w2 (by decide); have zw6 := ne_toInt (z := 2) w6 (by decide); have zw7 := ne_toInt (z := 3) w7 (by decide); have zw8 := ne_toInt (z := 4) w8 (by decide); omega) (by decide) ?_
              refine lv_aload_n hx hb dX6_count_76 rfl (lv_at hl 0 rfl) ?_
              refine lv_ldc hx hb hown (hts _ q291) dX6_count_77 ?_
              obtain ⟨r13, u12, e14, hF⟩ := bdI_some hF
              refine MM.callVi (m_X6_found e14) k_X6_64 S ecOK hEs hK ⟨by decide, by decide⟩ (va_recv hK hP rfl c_SP) rfl rfl hl.1 (Nat.le_of_ble_eq_true rfl) dX6_count_79 ⟨Nat.le_refl _, Nat.le_refl _⟩ hP hD hS (fun H locs hP hD hS => ?_)
              obtain ⟨rfl, rfl⟩ := sp_eq hF
              exact retI S hr hlocks hP hD hS dX6_count_82
  have hl := lv_entry ([.ref (a 0), .int x1]) (n := 2) (Nat.le_of_ble_eq_true rfl)
  rw [lg_entry_eq]
  generalize (lg_sl ([.ref (a 0), .int x1]) ++ List.replicate (2 - (lg_sl ([.ref (a 0), .int x1])).length) Slot.unset).toArray = ls at hl ⊢
  exact b_main _ _ _ hP hD hS hl

set_option maxRecDepth 100000 in
set_option maxHeartbeats 4000000 in
theorem m_X6_status  {x1 : Int32} {u u' : Mem} {r : Int32}  (hF : F_X6_status  u x1 = some (r, u')) : MC l D cc a tU adK adV yX6_status cX6_status 4 (some .int) 1 22 [.ref (a 0), .int x1] u (some (.int r)) u' := by
  refine MM.ofW (by decide) (fun p e s m below meth c S hr hlocks hK hEs hP hD hS => ?_)
  have S : CallFix p m c cX6_status 4 s _ gtbl RX6 := S
  obtain ⟨hx, hb, hml, hown, hts⟩ := id S
  have b11 : ∀  (u : Mem)  , F_X6_status_11  u  = some (r, u') → BW p l e s m below meth c 1 22 [.ref (a 0), .int x1] D (AC a) (some (.int r)) (wlC cc a u') 4 (wlC cc a u) 11 [(0, .ref (a 0))] [] := by
    intro  u  hF H locs ls hP hD hS hl
    unfold F_X6_status_11 at hF
    refine lv_aload_n hx hb dX6_status_11 rfl (lv_at hl 0 rfl) ?_
    refine lv_ldc hx hb hown (hts _ q291) dX6_status_12 ?_
    obtain ⟨r2, u1, e3, hF⟩ := bdI_some hF
    refine MM.callVi (m_X6_found e3) k_X6_64 S ecOK hEs hK ⟨by decide, by decide⟩ (va_recv hK hP rfl c_SP) rfl rfl hl.1 (Nat.le_of_ble_eq_true rfl) dX6_status_14 ⟨Nat.le_refl _, Nat.le_refl _⟩ hP hD hS (fun H locs hP hD hS => ?_)
    obtain ⟨rfl, rfl⟩ := sp_eq hF
    exact retI S hr hlocks hP hD hS dX6_status_17
  have b33 : ∀ (n : Nat) (u : Mem) (v2 : Int32) (v3 : Int32) , F_X6_status_33  n u v2 v3 = some (r, u') → BW p l e s m below meth c 1 22 [.ref (a 0), .int x1] D (AC a) (some (.int r)) (wlC cc a u') 4 (wlC cc a u) 33 [(0, .ref (a 0)), (2, .int v2), (3, .int v3)] [] := by
    intro n
    induction n with
    | zero => intro u v2 v3 hF; cases hF
    | succ n ih =>
      intro u v2 v3 hF H locs ls hP hD hS hl
      unfold F_X6_status_33 at hF
      refine lv_iload_n hx hb dX6_status_33 rfl (lv_at hl 2 rfl) ?_
      refine lv_bipush (v := 7) hx hb dX6_status_34 (by decide) ?_
      refine lv_icmp_ge (tgt := 54) hx hb dX6_status_36 (by decide) (fun c4 => ?_) (fun c4 => ?_)
      · have hF := ite_t hF c4
        refine lv_iload_n hx hb dX6_status_54 rfl (lv_at hl 1 rfl) ?_
        obtain ⟨rfl, rfl⟩ := sp_eq hF
        exact retI S hr hlocks hP hD hS dX6_status_55
      · have hF := ite_f hF c4
        refine lv_iload_n hx hb dX6_status_39 rfl (lv_at hl 1 rfl) ?_
        refine lv_aload_n hx hb dX6_status_40 rfl (lv_at hl 0 rfl) ?_
        refine va_get_w S hK hP _ c_SP rfl igX6 6 (by decide) q265 rfl rfl dX6_status_41 ?_
        refine lv_iload_n hx hb dX6_status_44 rfl (lv_at hl 2 rfl) ?_
        obtain ⟨hin5, hF⟩ := gd_some hF
        refine cIald S hK hP ⟨rfl, by decide⟩ rfl hin5 dX6_status_45 ?_
        refine lv_iadd hx hb dX6_status_46 ?_
        refine lv_istore_n (lv' := [(2, .int _), (0, .ref _), (3, .int _)]) hx hb dX6_status_47 rfl hl (by decide) rfl (fun ls hl => ?_)
        refine lv_inc1 (k := 2) (lv' := [(3, .int _), (2, .int _), (0, .ref _)]) hx hb dX6_status_48 hl rfl (by decide) rfl (fun ls hl => ?_)
        refine lv_goto (tgt := 33) hx hb dX6_status_51 (by decide) ?_
        exact ih _ _ _  hF H locs ls hP hD hS (lv_sub hl [2, 1, 0] rfl)
  unfold F_X6_status at hF
  have b_main : BW p l e s m below meth c 1 22 [.ref (a 0), .int x1] D (AC a) (some (.int r)) (wlC cc a u') 4 (wlC cc a u) 0 [(0, .ref (a 0)), (1, .int x1)] [] := by
    intro H locs ls hP hD hS hl
    refine lv_iload_n hx hb dX6_status_0 rfl (lv_at hl 1 rfl) ?_
    refine lv_iconst (v := -1) hx hb dX6_status_1 (by decide) ?_
    refine lv_icmp_lt (tgt := 11) hx hb dX6_status_2 (by decide) (fun c6 => ?_) (fun c6 => ?_)
    · have hF := ite_t hF c6
      exact b11 _  hF H locs ls hP hD hS (lv_sub hl [0] rfl)
    · have hF := ite_f hF c6
      refine lv_iload_n hx hb dX6_status_5 rfl (lv_at hl 1 rfl) ?_
      refine lv_bipush (v := 7) hx hb dX6_status_6 (by decide) ?_
      refine lv_icmp_lt (tgt := 18) hx hb dX6_status_8 (by decide) (fun c7 => ?_) (fun c7 => ?_)
      · have hF := ite_t hF c7
        refine lv_iload_n hx hb dX6_status_18 rfl (lv_at hl 1 rfl) ?_
        refine lv_if_lt (tgt := 29) hx hb dX6_status_19 (by decide) (fun c8 => ?_) (fun c8 => ?_)
        · have hF := ite_t hF c8
          refine lv_iconst (v := 0) hx hb dX6_status_29 (by decide) ?_
          refine lv_istore_n (lv' := [(2, .int _), (0, .ref _), (1, .int _)]) hx hb dX6_status_30 rfl hl (by decide) rfl (fun ls hl => ?_)
          refine lv_iconst (v := 0) hx hb dX6_status_31 (by decide) ?_
          refine lv_istore_n (lv' := [(3, .int _), (2, .int _), (0, .ref _), (1, .int _)]) hx hb dX6_status_32 rfl hl (by decide) rfl (fun ls hl => ?_)
          exact b33 _ _ _ _  hF H locs ls hP hD hS (lv_sub hl [2, 1, 0] rfl)
        · have hF := ite_f hF c8
          refine lv_aload_n hx hb dX6_status_22 rfl (lv_at hl 0 rfl) ?_
          refine va_get_w S hK hP _ c_SP rfl igX6 6 (by decide) q265 rfl rfl dX6_status_23 ?_
          refine lv_iload_n hx hb dX6_status_26 rfl (lv_at hl 1 rfl) ?_
          obtain ⟨hin9, hF⟩ := gd_some hF
          refine cIald S hK hP ⟨rfl, by decide⟩ rfl hin9 dX6_status_27 ?_
          obtain ⟨rfl, rfl⟩ := sp_eq hF
          exact retI S hr hlocks hP hD hS dX6_status_28
      · have hF := ite_f hF c7
        exact b11 _  hF H locs ls hP hD hS (lv_sub hl [0] rfl)
  have hl := lv_entry ([.ref (a 0), .int x1]) (n := 4) (Nat.le_of_ble_eq_true rfl)
  rw [lg_entry_eq]
  generalize (lg_sl ([.ref (a 0), .int x1]) ++ List.replicate (4 - (lg_sl ([.ref (a 0), .int x1])).length) Slot.unset).toArray = ls at hl ⊢
  exact b_main _ _ _ hP hD hS hl

end
