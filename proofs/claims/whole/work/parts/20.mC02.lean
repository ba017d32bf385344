section
variable {l : Launch} {D : va_G} {cc : Nat → ClassId} {a : Nat → Nat} {tU : Nat} {adK adV : Nat → Nat}
set_option maxRecDepth 100000 in
set_option maxHeartbeats 4000000 in
theorem m_X2_inFirstOrder  {x1 : Int32} {x2 : Int32} {u u' : Mem} {r : Int32}  (hF : F_X2_inFirstOrder  u x1 x2 = some (r, u')) : MC l D cc a tU adK adV yX2_inFirstOrder cX2_inFirstOrder 6 (some .int) 3 71 [.ref (a 7), .int x1, .int x2] u (some (.int r)) u' := by
  refine MM.ofW (by decide) (fun p e s m below meth c S hr hlocks hK hEs hP hD hS => ?_)
  have S : CallFix p m c cX2_inFirstOrder 6 s _ gtbl RX2 := S
  obtain ⟨hx, hb, hml, hown, hts⟩ := id S
  have b31 : ∀  (u : Mem)  , F_X2_inFirstOrder_31  u  = some (r, u') → BW p l e s m below meth c 3 71 [.ref (a 7), .int x1, .int x2] D (AC a) (some (.int r)) (wlC cc a u') 6 (wlC cc a u) 31 [] [] := by
    intro  u  hF H locs ls hP hD hS hl
    unfold F_X2_inFirstOrder_31 at hF
    refine lv_iconst (v := -1) hx hb dX2_inFirstOrder_31 (by decide) ?_
    obtain ⟨rfl, rfl⟩ := sp_eq hF
    exact retI S hr hlocks hP hD hS dX2_inFirstOrder_32
  have b39 : ∀ (n : Nat) (u : Mem) (v2 : Int32) (v3 : Int32) (v4 : Int32) (v5 : Int32) , F_X2_inFirstOrder_39  n u v2 v3 v4 v5 = some (r, u') → BW p l e s m below meth c 3 71 [.ref (a 7), .int x1, .int x2] D (AC a) (some (.int r)) (wlC cc a u') 6 (wlC cc a u) 39 [(0, .ref (a 7)), (2, .int v2), (3, .int v3), (4, .int v4), (5, .int v5)] [] := by
    intro n
    induction n with
    | zero => intro u v2 v3 v4 v5 hF; cases hF
    | succ n ih =>
      intro u v2 v3 v4 v5 hF H locs ls hP hD hS hl
      unfold F_X2_inFirstOrder_39 at hF
      refine lv_iload hx hb dX2_inFirstOrder_39 (lv_at hl 4 rfl) ?_
      refine lv_iload_n hx hb dX2_inFirstOrder_41 rfl (lv_at hl 1 rfl) ?_
      refine lv_icmp_gt (tgt := 73) hx hb dX2_inFirstOrder_42 (by decide) (fun c1 => ?_) (fun c1 => ?_)
      · have hF := ite_t hF c1
        refine lv_aload_n hx hb dX2_inFirstOrder_73 rfl (lv_at hl 0 rfl) ?_
        refine va_get_w S hK hP _ c_RI rfl igX2 5 (by decide) q163 rfl rfl dX2_inFirstOrder_74 ?_
        refine lv_iload hx hb dX2_inFirstOrder_77 (lv_at hl 3 rfl) ?_
        obtain ⟨hin2, hF⟩ := gd_some hF
        refine cIald S hK hP ⟨rfl, by decide⟩ rfl hin2 dX2_inFirstOrder_79 ?_
        obtain ⟨rfl, rfl⟩ := sp_eq hF
        exact retI S hr hlocks hP hD hS dX2_inFirstOrder_80
      · have hF := ite_f hF c1
        refine lv_aload_n hx hb dX2_inFirstOrder_45 rfl (lv_at hl 0 rfl) ?_
        refine lv_iload_n hx hb dX2_inFirstOrder_46 rfl (lv_at hl 2 rfl) ?_
        obtain ⟨r4, u3, e5, hF⟩ := bdI_some hF
        refine MM.callVi (m_X2_firstLeader e5) k_X2_100 S ecOK hEs hK ⟨by decide, by decide⟩ (va_recv hK hP rfl c_RI) rfl rfl hl.1 (Nat.le_of_ble_eq_true rfl) dX2_inFirstOrder_47 ⟨Nat.le_refl _, Nat.le_refl _⟩ hP hD hS (fun H locs hP hD hS => ?_)
        refine lv_istore (lv' := [(4, .int _), (0, .ref _), (2, .int _), (3, .int _), (5, .int _)]) hx hb dX2_inFirstOrder_50 hl (by decide) rfl (fun ls hl => ?_)
        refine lv_iload hx hb dX2_inFirstOrder_52 (lv_at hl 0 rfl) ?_
        refine lv_iconst (v := -1) hx hb dX2_inFirstOrder_54 (by decide) ?_
        refine lv_icmp_ne (tgt := 60) hx hb dX2_inFirstOrder_55 (by decide) (fun c6 => ?_) (fun c6 => ?_)
        · have hF := ite_f hF c6
          refine lv_iload_n hx hb dX2_inFirstOrder_60 rfl (lv_at hl 3 rfl) ?_
          refine lv_iload hx hb dX2_inFirstOrder_61 (lv_at hl 0 rfl) ?_
          obtain ⟨r8, u7, e9, hF⟩ := bdI_some hF
          refine MM.callSi (m_X2_without e9) k_X2_64 S ecOK hEs hK ⟨by decide, by decide⟩ rfl rfl hl.1 (Nat.le_of_ble_eq_true rfl) dX2_inFirstOrder_63 ⟨Nat.le_refl _, Nat.le_refl _⟩ hP hD hS (fun H locs hP hD hS => ?_)
          refine lv_istore_n (lv' := [(3, .int _), (4, .int _), (0, .ref _), (2, .int _), (5, .int _)]) hx hb dX2_inFirstOrder_66 rfl hl (by decide) rfl (fun ls hl => ?_)
          refine lv_inc1 (k := 4) (lv' := [(5, .int _), (3, .int _), (4, .int _), (0, .ref _), (2, .int _)]) hx hb dX2_inFirstOrder_67 hl rfl (by decide) rfl (fun ls hl => ?_)
          refine lv_goto (tgt := 39) hx hb dX2_inFirstOrder_70 (by decide) ?_
          exact ih _ _ _ _ _  hF H locs ls hP hD hS (lv_sub hl [3, 4, 1, 2, 0] rfl)
        · have hF := ite_t hF c6
          refine lv_iconst (v := -1) hx hb dX2_inFirstOrder_58 (by decide) ?_
          obtain ⟨rfl, rfl⟩ := sp_eq hF
          exact retI S hr hlocks hP hD hS dX2_inFirstOrder_59
  unfold F_X2_inFirstOrder at hF
  have b_main : BW p l e s m below meth c 3 71 [.ref (a 7), .int x1, .int x2] D (AC a) (some (.int r)) (wlC cc a u') 6 (wlC cc a u) 0 [(0, .ref (a 7)), (1, .int x1), (2, .int x2)] [] := by
    intro H locs ls hP hD hS hl
    refine lv_aload_n hx hb dX2_inFirstOrder_0 rfl (lv_at hl 0 rfl) ?_
    refine lv_iload_n hx hb dX2_inFirstOrder_1 rfl (lv_at hl 1 rfl) ?_
    obtain ⟨u10, e12, hF⟩ := bdV_some hF
    refine MM.callVv (m_X2_countOrders e12) k_X2_87 S ecOK hEs hK ⟨by decide, by decide⟩ (va_recv hK hP rfl c_RI) rfl rfl hl.1 (Nat.le_of_ble_eq_true rfl) dX2_inFirstOrder_2 ⟨Nat.le_refl _, Nat.le_refl _⟩ hP hD hS (fun H locs hP hD hS => ?_)
    refine lv_iconst (v := 1) hx hb dX2_inFirstOrder_5 (by decide) ?_
    refine lv_aload_n hx hb dX2_inFirstOrder_6 rfl (lv_at hl 0 rfl) ?_
    refine va_get_w S hK hP _ c_RI rfl igX2 10 (by decide) q168 rfl rfl dX2_inFirstOrder_7 ?_
    refine lv_ishl hx hb dX2_inFirstOrder_10 ?_
    refine lv_iconst (v := 1) hx hb dX2_inFirstOrder_11 (by decide) ?_
    refine lv_isub hx hb dX2_inFirstOrder_12 ?_
    refine lv_istore_n (lv' := [(3, .int _), (0, .ref _), (1, .int _), (2, .int _)]) hx hb dX2_inFirstOrder_13 rfl hl (by decide) rfl (fun ls hl => ?_)
    refine lv_iload_n hx hb dX2_inFirstOrder_14 rfl (lv_at hl 3 rfl) ?_
    refine lv_aload_n hx hb dX2_inFirstOrder_15 rfl (lv_at hl 1 rfl) ?_
    refine va_get_w S hK hP _ c_RI rfl igX2 10 (by decide) q168 rfl rfl dX2_inFirstOrder_16 ?_
    refine lv_icmp_ge (tgt := 31) hx hb dX2_inFirstOrder_19 (by decide) (fun c13 => ?_) (fun c13 => ?_)
    · have hF := ite_t hF c13
      exact b31 _  hF H locs ls hP hD hS (lv_sub hl [] rfl)
    · have hF := ite_f hF c13
      refine lv_aload_n hx hb dX2_inFirstOrder_22 rfl (lv_at hl 1 rfl) ?_
      refine va_get_w S hK hP _ c_RI rfl igX2 7 (by decide) q165 rfl rfl dX2_inFirstOrder_23 ?_
      refine lv_iload_n hx hb dX2_inFirstOrder_26 rfl (lv_at hl 0 rfl) ?_
      obtain ⟨hin14, hF⟩ := gd_some hF
      refine cIald S hK hP ⟨rfl, by decide⟩ rfl hin14 dX2_inFirstOrder_27 ?_
      refine lv_if_ne (tgt := 33) hx hb dX2_inFirstOrder_28 (by decide) (fun c15 => ?_) (fun c15 => ?_)
      · have hF := ite_f hF c15
        refine lv_iconst (v := -1) hx hb dX2_inFirstOrder_33 (by decide) ?_
        refine lv_istore (lv' := [(4, .int _), (3, .int _), (0, .ref _), (1, .int _), (2, .int _)]) hx hb dX2_inFirstOrder_34 hl (by decide) rfl (fun ls hl => ?_)
        refine lv_iconst (v := 0) hx hb dX2_inFirstOrder_36 (by decide) ?_
        refine lv_istore (lv' := [(5, .int _), (4, .int _), (3, .int _), (0, .ref _), (1, .int _), (2, .int _)]) hx hb dX2_inFirstOrder_37 hl (by decide) rfl (fun ls hl => ?_)
        exact b39 _ _ _ _ _ _  hF H locs ls hP hD hS (lv_sub hl [3, 5, 2, 1, 0] rfl)
      · have hF := ite_t hF c15
        exact b31 _  hF H locs ls hP hD hS (lv_sub hl [] rfl)
  have hl := lv_entry ([.ref (a 7), .int x1, .int x2]) (n := 6) (Nat.le_of_ble_eq_true rfl)
  rw [lg_entry_eq]
  generalize (lg_sl ([.ref (a 7), .int x1, .int x2]) ++ List.replicate (6 - (lg_sl ([.ref (a 7), .int x1, .int x2])).length) Slot.unset).toArray = ls at hl ⊢
  exact b_main _ _ _ hP hD hS hl

set_option maxRecDepth 100000 in
set_option maxHeartbeats 4000000 in
theorem m_X6_printOr  {x1 : Int32} {x2 : Int32} {u u' : Mem} {r : Int32}  (hF : F_X6_printOr  u x1 x2 = some (r, u')) : MC l D cc a tU adK adV yX6_printOr cX6_printOr 3 (some .int) 1 22 [.ref (a 0), .int x1, .int x2] u (some (.int r)) u' := by
  refine MM.ofW (by decide) (fun p e s m below meth c S hr hlocks hK hEs hP hD hS => ?_)
  have S : CallFix p m c cX6_printOr 3 s _ gtbl RX6 := S
  obtain ⟨hx, hb, hml, hown, hts⟩ := id S
  have b14 : ∀  (u : Mem) (y0 : Int32) , F_X6_printOr_14  u y0 = some (r, u') → BW p l e s m below meth c 1 22 [.ref (a 0), .int x1, .int x2] D (AC a) (some (.int r)) (wlC cc a u') 3 (wlC cc a u) 14 [] [.int y0] := by
    intro  u y0 hF H locs ls hP hD hS hl
    unfold F_X6_printOr_14 at hF
    obtain ⟨rfl, rfl⟩ := sp_eq hF
    exact retI S hr hlocks hP hD hS dX6_printOr_14
  unfold F_X6_printOr at hF
  have b_main : BW p l e s m below meth c 1 22 [.ref (a 0), .int x1, .int x2] D (AC a) (some (.int r)) (wlC cc a u') 3 (wlC cc a u) 0 [(0, .ref (a 0)), (1, .int x1), (2, .int x2)] [] := by
    intro H locs ls hP hD hS hl
    refine lv_iload_n hx hb dX6_printOr_0 rfl (lv_at hl 2 rfl) ?_
    refine lv_iconst (v := -1) hx hb dX6_printOr_1 (by decide) ?_
    refine lv_icmp_ne (tgt := 13) hx hb dX6_printOr_2 (by decide) (fun c1 => ?_) (fun c1 => ?_)
    · have hF := ite_f hF c1
      refine lv_iload_n hx hb dX6_printOr_13 rfl (lv_at hl 2 rfl) ?_
      exact b14 _ _  hF H locs ls hP hD hS (lv_sub hl [] rfl)
    · have hF := ite_t hF c1
      refine lv_aload_n hx hb dX6_printOr_5 rfl (lv_at hl 0 rfl) ?_
      refine lv_iload_n hx hb dX6_printOr_6 rfl (lv_at hl 1 rfl) ?_
      obtain ⟨r3, u2, e4, hF⟩ := bdI_some hF
      refine MM.callVi (m_X6_found e4) k_X6_64 S ecOK hEs hK ⟨by decide, by decide⟩ (va_recv hK hP rfl c_SP) rfl rfl hl.1 (Nat.le_of_ble_eq_true rfl) dX6_printOr_7 ⟨Nat.le_refl _, Nat.le_refl _⟩ hP hD hS (fun H locs hP hD hS => ?_)
      refine lv_goto (tgt := 14) hx hb dX6_printOr_10 (by decide) ?_
      exact b14 _ _  hF H locs ls hP hD hS (lv_sub hl [] rfl)
  have hl := lv_entry ([.ref (a 0), .int x1, .int x2]) (n := 3) (Nat.le_of_ble_eq_true rfl)
  rw [lg_entry_eq]
  generalize (lg_sl ([.ref (a 0), .int x1, .int x2]) ++ List.replicate (3 - (lg_sl ([.ref (a 0), .int x1, .int x2])).length) Slot.unset).toArray = ls at hl ⊢
  exact b_main _ _ _ hP hD hS hl

set_option maxRecDepth 100000 in
set_option maxHeartbeats 4000000 in
theorem m_X6_ith  {x1 : Int32} {x2 : Int32} {u u' : Mem} {r : Int32}  (hF : F_X6_ith  u x1 x2 = some (r, u')) : MC l D cc a tU adK adV yX6_ith cX6_ith 3 (some .int) 5 116 [.ref (a 0), .int x1, .int x2] u (some (.int r)) u' := by
  refine MM.ofW (by decide) (fun p e s m below meth c S hr hlocks hK hEs hP hD hS => ?_)
  have S : CallFix p m c cX6_ith 3 s _ gtbl RX6 := S
  obtain ⟨hx, hb, hml, hown, hts⟩ := id S
  have b21 : ∀  (u : Mem)  , F_X6_ith_21  u  = some (r, u') → BW p l e s m below meth c 5 116 [.ref (a 0), .int x1, .int x2] D (AC a) (some (.int r)) (wlC cc a u') 3 (wlC cc a u) 21 [(0, .ref (a 0))] [] := by
    intro  u  hF H locs ls hP hD hS hl
    unfold F_X6_ith_21 at hF
    refine lv_aload_n hx hb dX6_ith_21 rfl (lv_at hl 0 rfl) ?_
    refine lv_ldc hx hb hown (hts _ q291) dX6_ith_22 ?_
    obtain ⟨r2, u1, e3, hF⟩ := bdI_some hF
    refine MM.callVi (m_X6_found e3) k_X6_64 S ecOK hEs hK ⟨by decide, by decide⟩ (va_recv hK hP rfl c_SP) rfl rfl hl.1 (Nat.le_of_ble_eq_true rfl) dX6_ith_24 ⟨Nat.le_refl _, Nat.le_refl _⟩ hP hD hS (fun H locs hP hD hS => ?_)
    obtain ⟨rfl, rfl⟩ := sp_eq hF
    exact retI S hr hlocks hP hD hS dX6_ith_27
  unfold F_X6_ith at hF
  have b_main : BW p l e s m below meth c 5 116 [.ref (a 0), .int x1, .int x2] D (AC a) (some (.int r)) (wlC cc a u') 3 (wlC cc a u) 0 [(0, .ref (a 0)), (1, .int x1), (2, .int x2)] [] := by
    intro H locs ls hP hD hS hl
    refine lv_aload_n hx hb dX6_ith_0 rfl (lv_at hl 0 rfl) ?_
    refine va_get_w S hK hP _ c_SP rfl igX6 0 (by decide) q259 rfl rfl dX6_ith_1 ?_
    refine lv_iload_n hx hb dX6_ith_4 rfl (lv_at hl 1 rfl) ?_
    obtain ⟨r5, u4, e6, hF⟩ := bdI_some hF
    refine MM.callVi (m_X0_hasAll ⟨by decide, by decide⟩ e6) k_X6_160 S ecOK hEs hK ⟨by decide, by decide⟩ (va_recv hK hP rfl (c_AR ⟨by decide, by decide⟩)) rfl rfl hl.1 (Nat.le_of_ble_eq_true rfl) dX6_ith_5 ⟨Nat.le_refl _, Nat.le_refl _⟩ hP hD hS (fun H locs hP hD hS => ?_)
    refine lv_if_eq (tgt := 21) hx hb dX6_ith_8 (by decide) (fun c7 => ?_) (fun c7 => ?_)
    · have hF := ite_t hF c7
      exact b21 _  hF H locs ls hP hD hS (lv_sub hl [0] rfl)
    · have hF := ite_f hF c7
      refine lv_iload_n hx hb dX6_ith_11 rfl (lv_at hl 2 rfl) ?_
      refine lv_if_lt (tgt := 21) hx hb dX6_ith_12 (by decide) (fun c8 => ?_) (fun c8 => ?_)
      · have hF := ite_t hF c8
        exact b21 _  hF H locs ls hP hD hS (lv_sub hl [0] rfl)
      · have hF := ite_f hF c8
        refine lv_iload_n hx hb dX6_ith_15 rfl (lv_at hl 2 rfl) ?_
        refine lv_bipush (v := 8) hx hb dX6_ith_16 (by decide) ?_
        refine lv_icmp_lt (tgt := 28) hx hb dX6_ith_18 (by decide) (fun c9 => ?_) (fun c9 => ?_)
        · have hF := ite_t hF c9
          refine lv_iload_n hx hb dX6_ith_28 rfl (lv_at hl 1 rfl) ?_
          obtain ⟨r11, u10, e12, hF⟩ := bdI_some hF
          refine MM.callSi (m_J6_bitCount_0f7a4 e12) k_X6_172 S ecOK hEs hK ⟨by decide, by decide⟩ rfl rfl hl.1 (Nat.le_of_ble_eq_true rfl) dX6_ith_29 ⟨Nat.le_refl _, Nat.le_refl _⟩ hP hD hS (fun H locs hP hD hS => ?_)
          refine lv_bipush (v := 8) hx hb dX6_ith_32 (by decide) ?_
          refine lv_icmp_le (tgt := 44) hx hb dX6_ith_34 (by decide) (fun c13 => ?_) (fun c13 => ?_)
          · have hF := ite_t hF c13
            refine lv_aload_n hx hb dX6_ith_44 rfl (lv_at hl 0 rfl) ?_
            refine va_get_w S hK hP _ c_SP rfl igX6 2 (by decide) q261 rfl rfl dX6_ith_45 ?_
            obtain ⟨u14, e16, hF⟩ := bdV_some hF
            refine MM.callVv (m_X2_weigh e16) k_X6_163 S ecOK hEs hK ⟨by decide, by decide⟩ (va_recv hK hP rfl c_RI) rfl rfl hl.1 (Nat.le_of_ble_eq_true rfl) dX6_ith_48 ⟨Nat.le_refl _, Nat.le_refl _⟩ hP hD hS (fun H locs hP hD hS => ?_)
            refine lv_aload_n hx hb dX6_ith_51 rfl (lv_at hl 0 rfl) ?_
            refine lv_ldc hx hb hown (hts _ q436) dX6_ith_52 ?_
            refine lv_aload_n hx hb dX6_ith_54 rfl (lv_at hl 0 rfl) ?_
            refine va_get_w S hK hP _ c_SP rfl igX6 2 (by decide) q261 rfl rfl dX6_ith_55 ?_
            refine lv_iload_n hx hb dX6_ith_58 rfl (lv_at hl 1 rfl) ?_
            refine lv_iload_n hx hb dX6_ith_59 rfl (lv_at hl 2 rfl) ?_
            obtain ⟨r18, u17, e19, hF⟩ := bdI_some hF
            refine MM.callVi (m_X2_inFirstOrder e19) k_X6_186 S ecOK hEs hK ⟨by decide, by decide⟩ (va_recv hK hP rfl c_RI) rfl rfl hl.1 (Nat.le_of_ble_eq_true rfl) dX6_ith_60 ⟨Nat.le_refl _, Nat.le_refl _⟩ hP hD hS (fun H locs hP hD hS => ?_)
            obtain ⟨r21, u20, e22, hF⟩ := bdI_some hF
            refine MM.callVi (m_X6_printOr e22) k_X6_189 S ecOK hEs hK ⟨by decide, by decide⟩ (va_recv hK hP rfl c_SP) rfl rfl hl.1 (Nat.le_of_ble_eq_true rfl) dX6_ith_63 ⟨Nat.le_refl _, Nat.le_refl _⟩ hP hD hS (fun H locs hP hD hS => ?_)
            obtain ⟨rfl, rfl⟩ := sp_eq hF
            exact retI S hr hlocks hP hD hS dX6_ith_66
          · have hF := ite_f hF c13
            refine lv_aload_n hx hb dX6_ith_37 rfl (lv_at hl 0 rfl) ?_
            refine lv_ldc hx hb hown (hts _ q525) dX6_ith_38 ?_
            obtain ⟨r24, u23, e25, hF⟩ := bdI_some hF
            refine MM.callVi (m_X6_found e25) k_X6_64 S ecOK hEs hK ⟨by decide, by decide⟩ (va_recv hK hP rfl c_SP) rfl rfl hl.1 (Nat.le_of_ble_eq_true rfl) dX6_ith_40 ⟨Nat.le_refl _, Nat.le_refl _⟩ hP hD hS (fun H locs hP hD hS => ?_)
            obtain ⟨rfl, rfl⟩ := sp_eq hF
            exact retI S hr hlocks hP hD hS dX6_ith_43
        · have hF := ite_f hF c9
          exact b21 _  hF H locs ls hP hD hS (lv_sub hl [0] rfl)
  have hl := lv_entry ([.ref (a 0), .int x1, .int x2]) (n := 3) (Nat.le_of_ble_eq_true rfl)
  rw [lg_entry_eq]
  generalize (lg_sl ([.ref (a 0), .int x1, .int x2]) ++ List.replicate (3 - (lg_sl ([.ref (a 0), .int x1, .int x2])).length) Slot.unset).toArray = ls at hl ⊢
  exact b_main _ _ _ hP hD hS hl

set_option maxRecDepth 100000 in
set_option maxHeartbeats 4000000 in
theorem m_X2_rowByYears  {x1 : Int32} {u u' : Mem} {r : Int32}  (hF : F_X2_rowByYears  u x1 = some (r, u')) : MC l D cc a tU adK adV yX2_rowByYears cX2_rowByYears 5 (some .int) 1 24 [.ref (a 7), .int x1] u (some (.int r)) u' := by
  refine MM.ofW (by decide) (fun p e s m below meth c S hr hlocks hK hEs hP hD hS => ?_)
  have S : CallFix p m c cX2_rowByYears 5 s _ gtbl RX2 := S
  obtain ⟨hx, hb, hml, hown, hts⟩ := id S
  have b84 : ∀ (k4 : Mem → Int32 → Int32 → Int32 → Option (Int32 × Mem)) (hk4 : ∀ (u : Mem) (v1 : Int32) (v2 : Int32) (v3 : Int32) , k4 u v1 v2 v3 = some (r, u') → BW p l e s m below meth c 1 24 [.ref (a 7), .int x1] D (AC a) (some (.int r)) (wlC cc a u') 5 (wlC cc a u) 4 [(0, .ref (a 7)), (1, .int v1), (2, .int v2), (3, .int v3)] []) (u : Mem) (v1 : Int32) (v2 : Int32) (v3 : Int32) , F_X2_rowByYears_84 k4 u v1 v2 v3 = some (r, u') → BW p l e s m below meth c 1 24 [.ref (a 7), .int x1] D (AC a) (some (.int r)) (wlC cc a u') 5 (wlC cc a u) 84 [(0, .ref (a 7)), (1, .int v1), (2, .int v2), (3, .int v3)] [] := by
    intro k4 hk4 u v1 v2 v3 hF H locs ls hP hD hS hl
    unfold F_X2_rowByYears_84 at hF
    refine lv_inc1 (k := 3) (lv' := [(3, .int _), (0, .ref _), (1, .int _), (2, .int _)]) hx hb dX2_rowByYears_84 hl rfl (by decide) rfl (fun ls hl => ?_)
    refine lv_goto (tgt := 4) hx hb dX2_rowByYears_87 (by decide) ?_
    exact hk4 _ _ _ _  hF H locs ls hP hD hS (lv_sub hl [1, 2, 3, 0] rfl)
  have b73 : ∀ (k4 : Mem → Int32 → Int32 → Int32 → Option (Int32 × Mem)) (hk4 : ∀ (u : Mem) (v1 : Int32) (v2 : Int32) (v3 : Int32) , k4 u v1 v2 v3 = some (r, u') → BW p l e s m below meth c 1 24 [.ref (a 7), .int x1] D (AC a) (some (.int r)) (wlC cc a u') 5 (wlC cc a u) 4 [(0, .ref (a 7)), (1, .int v1), (2, .int v2), (3, .int v3)] []) (u : Mem) (v1 : Int32) (v2 : Int32) (v3 : Int32) (v4 : Int32) , F_X2_rowByYears_73 k4 u v1 v2 v3 v4 = some (r, u') → BW p l e s m below meth c 1 24 [.ref (a 7), .int x1] D (AC a) (some (.int r)) (wlC cc a u') 5 (wlC cc a u) 73 [(0, .ref (a 7)), (1, .int v1), (2, .int v2), (3, .int v3), (4, .int v4)] [] := by
    intro k4 hk4 u v1 v2 v3 v4 hF H locs ls hP hD hS hl
    unfold F_X2_rowByYears_73 at hF
    refine lv_aload_n hx hb dX2_rowByYears_73 rfl (lv_at hl 0 rfl) ?_
    refine va_get_w S hK hP _ c_RI rfl igX2 3 (by decide) q161 rfl rfl dX2_rowByYears_74 ?_
    refine lv_iload hx hb dX2_rowByYears_77 (lv_at hl 4 rfl) ?_
    refine lv_iload_n hx hb dX2_rowByYears_79 rfl (lv_at hl 3 rfl) ?_
    obtain ⟨hin1, hF⟩ := gd_some hF
    refine cIast S hK hP hD hS ⟨rfl, by decide⟩ rfl hin1 dX2_rowByYears_80 (fun H locs hP hD hS => ?_)
    refine lv_inc1 (k := 2) (lv' := [(2, .int _), (0, .ref _), (1, .int _), (3, .int _), (4, .int _)]) hx hb dX2_rowByYears_81 hl rfl (by decide) rfl (fun ls hl => ?_)
    exact b84 _ hk4 _ _ _ _  hF H locs ls hP hD hS (lv_sub hl [1, 2, 0, 3] rfl)
  have b26 : ∀ (k4 : Mem → Int32 → Int32 → Int32 → Option (Int32 × Mem)) (hk4 : ∀ (u : Mem) (v1 : Int32) (v2 : Int32) (v3 : Int32) , k4 u v1 v2 v3 = some (r, u') → BW p l e s m below meth c 1 24 [.ref (a 7), .int x1] D (AC a) (some (.int r)) (wlC cc a u') 5 (wlC cc a u) 4 [(0, .ref (a 7)), (1, .int v1), (2, .int v2), (3, .int v3)] []), ∀ (n : Nat) (u : Mem) (v1 : Int32) (v2 : Int32) (v3 : Int32) (v4 : Int32) , F_X2_rowByYears_26 k4 n u v1 v2 v3 v4 = some (r, u') → BW p l e s m below meth c 1 24 [.ref (a 7), .int x1] D (AC a) (some (.int r)) (wlC cc a u') 5 (wlC cc a u) 26 [(0, .ref (a 7)), (1, .int v1), (2, .int v2), (3, .int v3), (4, .int v4)] [] := by
    intro k4 hk4
    intro n
    induction n with
    | zero => intro u v1 v2 v3 v4 hF; cases hF
    | succ n ih =>
      intro u v1 v2 v3 v4 hF H locs ls hP hD hS hl
      unfold F_X2_rowByYears_26 at hF
      refine lv_iload hx hb dX2_rowByYears_26 (lv_at hl 4 rfl) ?_
      refine lv_if_le (tgt := 73) hx hb dX2_rowByYears_28 (by decide) (fun c2 => ?_) (fun c2 => ?_)
      · have hF := ite_t hF c2
        exact b73 _ hk4 _ _ _ _ _  hF H locs ls hP hD hS (lv_sub hl [0, 1, 2, 3, 4] rfl)
      · have hF := ite_f hF c2
        refine lv_aload_n hx hb dX2_rowByYears_31 rfl (lv_at hl 0 rfl) ?_
        refine va_get_w S hK hP _ c_RI rfl igX2 0 (by decide) q158 rfl rfl dX2_rowByYears_32 ?_
        refine lv_iload_n hx hb dX2_rowByYears_35 rfl (lv_at hl 3 rfl) ?_
        refine lv_aload_n hx hb dX2_rowByYears_36 rfl (lv_at hl 0 rfl) ?_
        refine va_get_w S hK hP _ c_RI rfl igX2 3 (by decide) q161 rfl rfl dX2_rowByYears_37 ?_
        refine lv_iload hx hb dX2_rowByYears_40 (lv_at hl 4 rfl) ?_
        refine lv_iconst (v := 1) hx hb dX2_rowByYears_42 (by decide) ?_
        refine lv_isub hx hb dX2_rowByYears_43 ?_
        obtain ⟨hin3, hF⟩ := gd_some hF
        refine cIald S hK hP ⟨rfl, by decide⟩ rfl hin3 dX2_rowByYears_44 ?_
        obtain ⟨r5, u4, e6, hF⟩ := bdI_some hF
        refine MM.callVi (m_X0_isEarlier ⟨by decide, by decide⟩ e6) k_X2_54 S ecOK hEs hK ⟨by decide, by decide⟩ (va_recv hK hP rfl (c_AR ⟨by decide, by decide⟩)) rfl rfl hl.1 (Nat.le_of_ble_eq_true rfl) dX2_rowByYears_45 ⟨Nat.le_refl _, Nat.le_refl _⟩ hP hD hS (fun H locs hP hD hS => ?_)
        refine lv_if_eq (tgt := 73) hx hb dX2_rowByYears_48 (by decide) (fun c7 => ?_) (fun c7 => ?_)
        · have hF := ite_t hF c7
          exact b73 _ hk4 _ _ _ _ _  hF H locs ls hP hD hS (lv_sub hl [0, 1, 2, 3, 4] rfl)
        · have hF := ite_f hF c7
          refine lv_aload_n hx hb dX2_rowByYears_51 rfl (lv_at hl 0 rfl) ?_
          refine va_get_w S hK hP _ c_RI rfl igX2 3 (by decide) q161 rfl rfl dX2_rowByYears_52 ?_
          refine lv_iload hx hb dX2_rowByYears_55 (lv_at hl 4 rfl) ?_
          refine lv_aload_n hx hb dX2_rowByYears_57 rfl (lv_at hl 0 rfl) ?_
          refine va_get_w S hK hP _ c_RI rfl igX2 3 (by decide) q161 rfl rfl dX2_rowByYears_58 ?_
          refine lv_iload hx hb dX2_rowByYears_61 (lv_at hl 4 rfl) ?_
          refine lv_iconst (v := 1) hx hb dX2_rowByYears_63 (by decide) ?_
          refine lv_isub hx hb dX2_rowByYears_64 ?_
          obtain ⟨hin8, hF⟩ := gd_some hF
          refine cIald S hK hP ⟨rfl, by decide⟩ rfl hin8 dX2_rowByYears_65 ?_
          obtain ⟨hin9, hF⟩ := gd_some hF
          refine cIast S hK hP hD hS ⟨rfl, by decide⟩ rfl hin9 dX2_rowByYears_66 (fun H locs hP hD hS => ?_)
          refine lv_incm (k := 4) (lv' := [(4, .int _), (0, .ref _), (1, .int _), (2, .int _), (3, .int _)]) hx hb dX2_rowByYears_67 hl rfl (by decide) rfl (fun ls hl => ?_)
          refine lv_goto (tgt := 26) hx hb dX2_rowByYears_70 (by decide) ?_
          exact ih _ _ _ _ _  hF H locs ls hP hD hS (lv_sub hl [1, 2, 3, 4, 0] rfl)
  have b4 : ∀ (n : Nat) (u : Mem) (v1 : Int32) (v2 : Int32) (v3 : Int32) , F_X2_rowByYears_4  n u v1 v2 v3 = some (r, u') → BW p l e s m below meth c 1 24 [.ref (a 7), .int x1] D (AC a) (some (.int r)) (wlC cc a u') 5 (wlC cc a u) 4 [(0, .ref (a 7)), (1, .int v1), (2, .int v2), (3, .int v3)] [] := by
    intro n
    induction n with
    | zero => intro u v1 v2 v3 hF; cases hF
    | succ n ih =>
      intro u v1 v2 v3 hF H locs ls hP hD hS hl
      unfold F_X2_rowByYears_4 at hF
      refine lv_iload_n hx hb dX2_rowByYears_4 rfl (lv_at hl 3 rfl) ?_
      refine lv_aload_n hx hb dX2_rowByYears_5 rfl (lv_at hl 0 rfl) ?_
      refine va_get_w S hK hP _ c_RI rfl igX2 0 (by decide) q158 rfl rfl dX2_rowByYears_6 ?_
      refine va_get_w S hK hP _ (c_AR ⟨by decide, by decide⟩) rfl igX0 1 (by decide) q139 rfl rfl dX2_rowByYears_9 ?_
      refine lv_icmp_ge (tgt := 90) hx hb dX2_rowByYears_12 (by decide) (fun c10 => ?_) (fun c10 => ?_)
      · have hF := ite_t hF c10
        refine lv_iload_n hx hb dX2_rowByYears_90 rfl (lv_at hl 2 rfl) ?_
        obtain ⟨rfl, rfl⟩ := sp_eq hF
        exact retI S hr hlocks hP hD hS dX2_rowByYears_91
      · have hF := ite_f hF c10
        refine lv_iload_n hx hb dX2_rowByYears_15 rfl (lv_at hl 1 rfl) ?_
        refine lv_iload_n hx hb dX2_rowByYears_16 rfl (lv_at hl 3 rfl) ?_
        obtain ⟨r12, u11, e13, hF⟩ := bdI_some hF
        refine MM.callSi (m_X2_isIn e13) k_X2_61 S ecOK hEs hK ⟨by decide, by decide⟩ rfl rfl hl.1 (Nat.le_of_ble_eq_true rfl) dX2_rowByYears_17 ⟨Nat.le_refl _, Nat.le_refl _⟩ hP hD hS (fun H locs hP hD hS => ?_)
        refine lv_if_eq (tgt := 84) hx hb dX2_rowByYears_20 (by decide) (fun c14 => ?_) (fun c14 => ?_)
        · have hF := ite_t hF c14
          exact b84 _ ih _ _ _ _  hF H locs ls hP hD hS (lv_sub hl [0, 1, 2, 3] rfl)
        · have hF := ite_f hF c14
          refine lv_iload_n hx hb dX2_rowByYears_23 rfl (lv_at hl 2 rfl) ?_
          refine lv_istore (lv' := [(4, .int _), (0, .ref _), (1, .int _), (2, .int _), (3, .int _)]) hx hb dX2_rowByYears_24 hl (by decide) rfl (fun ls hl => ?_)
          exact b26 _ ih _ _ _ _ _ _  hF H locs ls hP hD hS (lv_sub hl [1, 2, 3, 4, 0] rfl)
  unfold F_X2_rowByYears at hF
  have b_main : BW p l e s m below meth c 1 24 [.ref (a 7), .int x1] D (AC a) (some (.int r)) (wlC cc a u') 5 (wlC cc a u) 0 [(0, .ref (a 7)), (1, .int x1)] [] := by
    intro H locs ls hP hD hS hl
    refine lv_iconst (v := 0) hx hb dX2_rowByYears_0 (by decide) ?_
    refine lv_istore_n (lv' := [(2, .int _), (0, .ref _), (1, .int _)]) hx hb dX2_rowByYears_1 rfl hl (by decide) rfl (fun ls hl => ?_)
    refine lv_iconst (v := 0) hx hb dX2_rowByYears_2 (by decide) ?_
    refine lv_istore_n (lv' := [(3, .int _), (2, .int _), (0, .ref _), (1, .int _)]) hx hb dX2_rowByYears_3 rfl hl (by decide) rfl (fun ls hl => ?_)
    exact b4 _ _ _ _ _  hF H locs ls hP hD hS (lv_sub hl [2, 3, 1, 0] rfl)
  have hl := lv_entry ([.ref (a 7), .int x1]) (n := 5) (Nat.le_of_ble_eq_true rfl)
  rw [lg_entry_eq]
  generalize (lg_sl ([.ref (a 7), .int x1]) ++ List.replicate (5 - (lg_sl ([.ref (a 7), .int x1])).length) Slot.unset).toArray = ls at hl ⊢
  exact b_main _ _ _ hP hD hS hl

set_option maxRecDepth 100000 in
set_option maxHeartbeats 4000000 in
theorem m_X2_fitsSomewhere  {x1 : Int32} {x2 : Int32} {x3 : Int32} {u u' : Mem} {r : Int32}  (hF : F_X2_fitsSomewhere  u x1 x2 x3 = some (r, u')) : MC l D cc a tU adK adV yX2_fitsSomewhere cX2_fitsSomewhere 7 (some .boolean) 1 21 [.ref (a 7), .int x1, .int x2, .int x3] u (some (.int r)) u' := by
  refine MM.ofW (by decide) (fun p e s m below meth c S hr hlocks hK hEs hP hD hS => ?_)
  have S : CallFix p m c cX2_fitsSomewhere 7 s _ gtbl RX2 := S
  obtain ⟨hx, hb, hml, hown, hts⟩ := id S
  have b91 : ∀ (k26 : Mem → Int32 → Int32 → Int32 → Int32 → Option (Int32 × Mem)) (hk26 : ∀ (u : Mem) (v1 : Int32) (v3 : Int32) (v4 : Int32) (v5 : Int32) , k26 u v1 v3 v4 v5 = some (r, u') → BW p l e s m below meth c 1 21 [.ref (a 7), .int x1, .int x2, .int x3] D (AC a) (some (.int r)) (wlC cc a u') 7 (wlC cc a u) 26 [(0, .ref (a 7)), (1, .int v1), (3, .int v3), (4, .int v4), (5, .int v5)] []) (u : Mem) (v1 : Int32) (v3 : Int32) (v4 : Int32) (v5 : Int32) , F_X2_fitsSomewhere_91 k26 u v1 v3 v4 v5 = some (r, u') → BW p l e s m below meth c 1 21 [.ref (a 7), .int x1, .int x2, .int x3] D (AC a) (some (.int r)) (wlC cc a u') 7 (wlC cc a u) 91 [(0, .ref (a 7)), (1, .int v1), (3, .int v3), (4, .int v4), (5, .int v5)] [] := by
    intro k26 hk26 u v1 v3 v4 v5 hF H locs ls hP hD hS hl
    unfold F_X2_fitsSomewhere_91 at hF
    refine lv_inc1 (k := 4) (lv' := [(5, .int _), (0, .ref _), (1, .int _), (3, .int _), (4, .int _)]) hx hb dX2_fitsSomewhere_91 hl rfl (by decide) rfl (fun ls hl => ?_)
    refine lv_goto (tgt := 26) hx hb dX2_fitsSomewhere_94 (by decide) ?_
    exact hk26 _ _ _ _ _  hF H locs ls hP hD hS (lv_sub hl [1, 2, 3, 4, 0] rfl)
  have b26 : ∀ (n : Nat) (u : Mem) (v1 : Int32) (v3 : Int32) (v4 : Int32) (v5 : Int32) , F_X2_fitsSomewhere_26  n u v1 v3 v4 v5 = some (r, u') → BW p l e s m below meth c 1 21 [.ref (a 7), .int x1, .int x2, .int x3] D (AC a) (some (.int r)) (wlC cc a u') 7 (wlC cc a u) 26 [(0, .ref (a 7)), (1, .int v1), (3, .int v3), (4, .int v4), (5, .int v5)] [] := by
    intro n
    induction n with
    | zero => intro u v1 v3 v4 v5 hF; cases hF
    | succ n ih =>
      intro u v1 v3 v4 v5 hF H locs ls hP hD hS hl
      unfold F_X2_fitsSomewhere_26 at hF
      refine lv_iload hx hb dX2_fitsSomewhere_26 (lv_at hl 4 rfl) ?_
      refine lv_iload_n hx hb dX2_fitsSomewhere_28 rfl (lv_at hl 2 rfl) ?_
      refine lv_icmp_ge (tgt := 97) hx hb dX2_fitsSomewhere_29 (by decide) (fun c1 => ?_) (fun c1 => ?_)
      · have hF := ite_t hF c1
        refine lv_iconst (v := 0) hx hb dX2_fitsSomewhere_97 (by decide) ?_
        obtain ⟨rfl, rfl⟩ := sp_eq hF
        exact retZ S hr hlocks hP hD hS (by decide) dX2_fitsSomewhere_98
      · have hF := ite_f hF c1
        refine lv_aload_n hx hb dX2_fitsSomewhere_32 rfl (lv_at hl 0 rfl) ?_
        refine va_get_w S hK hP _ c_RI rfl igX2 3 (by decide) q161 rfl rfl dX2_fitsSomewhere_33 ?_
        refine lv_iload hx hb dX2_fitsSomewhere_36 (lv_at hl 4 rfl) ?_
        obtain ⟨hin2, hF⟩ := gd_some hF
        refine cIald S hK hP ⟨rfl, by decide⟩ rfl hin2 dX2_fitsSomewhere_38 ?_
        refine lv_istore (lv' := [(6, .int _), (0, .ref _), (1, .int _), (3, .int _), (4, .int _), (5, .int _)]) hx hb dX2_fitsSomewhere_39 hl (by decide) rfl (fun ls hl => ?_)
        refine lv_iload hx hb dX2_fitsSomewhere_41 (lv_at hl 0 rfl) ?_
        refine lv_iload_n hx hb dX2_fitsSomewhere_43 rfl (lv_at hl 2 rfl) ?_
        refine lv_icmp_ne (tgt := 50) hx hb dX2_fitsSomewhere_44 (by decide) (fun c3 => ?_) (fun c3 => ?_)
        · have hF := ite_f hF c3
          refine lv_aload_n hx hb dX2_fitsSomewhere_50 rfl (lv_at hl 1 rfl) ?_
          refine va_get_w S hK hP _ c_RI rfl igX2 1 (by decide) q159 rfl rfl dX2_fitsSomewhere_51 ?_
          refine lv_iload hx hb dX2_fitsSomewhere_54 (lv_at hl 0 rfl) ?_
          obtain ⟨hin4, hF⟩ := gd_some hF
          refine cIald S hK hP ⟨rfl, by decide⟩ rfl hin4 dX2_fitsSomewhere_56 ?_
          refine lv_iload_n hx hb dX2_fitsSomewhere_57 rfl (lv_at hl 2 rfl) ?_
          obtain ⟨r6, u5, e7, hF⟩ := bdI_some hF
          refine MM.callSi (m_X2_isIn e7) k_X2_61 S ecOK hEs hK ⟨by decide, by decide⟩ rfl rfl hl.1 (Nat.le_of_ble_eq_true rfl) dX2_fitsSomewhere_58 ⟨Nat.le_refl _, Nat.le_refl _⟩ hP hD hS (fun H locs hP hD hS => ?_)
          refine lv_if_ne (tgt := 66) hx hb dX2_fitsSomewhere_61 (by decide) (fun c8 => ?_) (fun c8 => ?_)
          · have hF := ite_f hF c8
            refine lv_iload hx hb dX2_fitsSomewhere_66 (lv_at hl 4 rfl) ?_
            refine lv_iload hx hb dX2_fitsSomewhere_68 (lv_at hl 0 rfl) ?_
            obtain ⟨r10, u9, e11, hF⟩ := bdI_some hF
            refine MM.callSi (m_X2_without e11) k_X2_64 S ecOK hEs hK ⟨by decide, by decide⟩ rfl rfl hl.1 (Nat.le_of_ble_eq_true rfl) dX2_fitsSomewhere_70 ⟨Nat.le_refl _, Nat.le_refl _⟩ hP hD hS (fun H locs hP hD hS => ?_)
            refine lv_istore (lv' := [(4, .int _), (6, .int _), (0, .ref _), (1, .int _), (3, .int _), (5, .int _)]) hx hb dX2_fitsSomewhere_73 hl (by decide) rfl (fun ls hl => ?_)
            refine lv_iload hx hb dX2_fitsSomewhere_75 (lv_at hl 0 rfl) ?_
            refine lv_aload_n hx hb dX2_fitsSomewhere_77 rfl (lv_at hl 2 rfl) ?_
            refine va_get_w S hK hP _ c_RI rfl igX2 1 (by decide) q159 rfl rfl dX2_fitsSomewhere_78 ?_
            refine lv_iload_n hx hb dX2_fitsSomewhere_81 rfl (lv_at hl 3 rfl) ?_
            obtain ⟨hin12, hF⟩ := gd_some hF
            refine cIald S hK hP ⟨rfl, by decide⟩ rfl hin12 dX2_fitsSomewhere_82 ?_
            refine lv_iconst (v := -1) hx hb dX2_fitsSomewhere_83 (by decide) ?_
            refine lv_ixor hx hb dX2_fitsSomewhere_84 ?_
            refine lv_iand hx hb dX2_fitsSomewhere_85 ?_
            refine lv_if_ne (tgt := 91) hx hb dX2_fitsSomewhere_86 (by decide) (fun c13 => ?_) (fun c13 => ?_)
            · have hF := ite_f hF c13
              exact b91 _ ih _ _ _ _ _  hF H locs ls hP hD hS (lv_sub hl [2, 3, 4, 0, 5] rfl)
            · have hF := ite_t hF c13
              refine lv_iconst (v := 1) hx hb dX2_fitsSomewhere_89 (by decide) ?_
              obtain ⟨rfl, rfl⟩ := sp_eq hF
              exact retZ S hr hlocks hP hD hS (by decide) dX2_fitsSomewhere_90
          · have hF := ite_t hF c8
            refine lv_iconst (v := 0) hx hb dX2_fitsSomewhere_64 (by decide) ?_
            obtain ⟨rfl, rfl⟩ := sp_eq hF
            exact retZ S hr hlocks hP hD hS (by decide) dX2_fitsSomewhere_65
        · have hF := ite_t hF c3
          refine lv_goto (tgt := 91) hx hb dX2_fitsSomewhere_47 (by decide) ?_
          exact b91 _ ih _ _ _ _ _  hF H locs ls hP hD hS (lv_sub hl [1, 2, 3, 4, 5] rfl)
  unfold F_X2_fitsSomewhere at hF
  have b_main : BW p l e s m below meth c 1 21 [.ref (a 7), .int x1, .int x2, .int x3] D (AC a) (some (.int r)) (wlC cc a u') 7 (wlC cc a u) 0 [(0, .ref (a 7)), (1, .int x1), (2, .int x2), (3, .int x3)] [] := by
    intro H locs ls hP hD hS hl
    refine lv_iload_n hx hb dX2_fitsSomewhere_0 rfl (lv_at hl 2 rfl) ?_
    refine lv_iload_n hx hb dX2_fitsSomewhere_1 rfl (lv_at hl 1 rfl) ?_
    obtain ⟨r15, u14, e16, hF⟩ := bdI_some hF
    refine MM.callSi (m_X2_without e16) k_X2_64 S ecOK hEs hK ⟨by decide, by decide⟩ rfl rfl hl.1 (Nat.le_of_ble_eq_true rfl) dX2_fitsSomewhere_2 ⟨Nat.le_refl _, Nat.le_refl _⟩ hP hD hS (fun H locs hP hD hS => ?_)
    refine lv_istore (lv' := [(4, .int _), (0, .ref _), (1, .int _), (2, .int _), (3, .int _)]) hx hb dX2_fitsSomewhere_5 hl (by decide) rfl (fun ls hl => ?_)
    refine lv_iload hx hb dX2_fitsSomewhere_7 (lv_at hl 0 rfl) ?_
    refine lv_aload_n hx hb dX2_fitsSomewhere_9 rfl (lv_at hl 1 rfl) ?_
    refine va_get_w S hK hP _ c_RI rfl igX2 1 (by decide) q159 rfl rfl dX2_fitsSomewhere_10 ?_
    refine lv_iload_n hx hb dX2_fitsSomewhere_13 rfl (lv_at hl 2 rfl) ?_
    obtain ⟨hin17, hF⟩ := gd_some hF
    refine cIald S hK hP ⟨rfl, by decide⟩ rfl hin17 dX2_fitsSomewhere_14 ?_
    refine lv_iconst (v := -1) hx hb dX2_fitsSomewhere_15 (by decide) ?_
    refine lv_ixor hx hb dX2_fitsSomewhere_16 ?_
    refine lv_iand hx hb dX2_fitsSomewhere_17 ?_
    refine lv_if_ne (tgt := 23) hx hb dX2_fitsSomewhere_18 (by decide) (fun c18 => ?_) (fun c18 => ?_)
    · have hF := ite_f hF c18
      refine lv_iconst (v := 0) hx hb dX2_fitsSomewhere_23 (by decide) ?_
      refine lv_istore (lv' := [(5, .int _), (4, .int _), (0, .ref _), (1, .int _), (2, .int _), (3, .int _)]) hx hb dX2_fitsSomewhere_24 hl (by decide) rfl (fun ls hl => ?_)
      exact b26 _ _ _ _ _ _  hF H locs ls hP hD hS (lv_sub hl [2, 3, 5, 1, 0] rfl)
    · have hF := ite_t hF c18
      refine lv_iconst (v := 1) hx hb dX2_fitsSomewhere_21 (by decide) ?_
      obtain ⟨rfl, rfl⟩ := sp_eq hF
      exact retZ S hr hlocks hP hD hS (by decide) dX2_fitsSomewhere_22
  have hl := lv_entry ([.ref (a 7), .int x1, .int x2, .int x3]) (n := 7) (Nat.le_of_ble_eq_true rfl)
  rw [lg_entry_eq]
  generalize (lg_sl ([.ref (a 7), .int x1, .int x2, .int x3]) ++ List.replicate (7 - (lg_sl ([.ref (a 7), .int x1, .int x2, .int x3])).length) Slot.unset).toArray = ls at hl ⊢
  exact b_main _ _ _ hP hD hS hl

set_option maxRecDepth 100000 in
set_option maxHeartbeats 4000000 in
theorem m_X2_misdated  {x1 : Int32} {u u' : Mem} {r : Int32}  (hF : F_X2_misdated  u x1 = some (r, u')) : MC l D cc a tU adK adV yX2_misdated cX2_misdated 4 (some .int) 2 48 [.ref (a 7), .int x1] u (some (.int r)) u' := by
  refine MM.ofW (by decide) (fun p e s m below meth c S hr hlocks hK hEs hP hD hS => ?_)
  have S : CallFix p m c cX2_misdated 4 s _ gtbl RX2 := S
  obtain ⟨hx, hb, hml, hown, hts⟩ := id S
  have b51 : ∀ (k8 : Mem → Int32 → Int32 → Int32 → Option (Int32 × Mem)) (hk8 : ∀ (u : Mem) (v1 : Int32) (v2 : Int32) (v3 : Int32) , k8 u v1 v2 v3 = some (r, u') → BW p l e s m below meth c 2 48 [.ref (a 7), .int x1] D (AC a) (some (.int r)) (wlC cc a u') 4 (wlC cc a u) 8 [(0, .ref (a 7)), (1, .int v1), (2, .int v2), (3, .int v3)] []) (u : Mem) (v1 : Int32) (v2 : Int32) (v3 : Int32) , F_X2_misdated_51 k8 u v1 v2 v3 = some (r, u') → BW p l e s m below meth c 2 48 [.ref (a 7), .int x1] D (AC a) (some (.int r)) (wlC cc a u') 4 (wlC cc a u) 51 [(0, .ref (a 7)), (1, .int v1), (2, .int v2), (3, .int v3)] [] := by
    intro k8 hk8 u v1 v2 v3 hF H locs ls hP hD hS hl
    unfold F_X2_misdated_51 at hF
    refine lv_inc1 (k := 3) (lv' := [(3, .int _), (0, .ref _), (1, .int _), (2, .int _)]) hx hb dX2_misdated_51 hl rfl (by decide) rfl (fun ls hl => ?_)
    refine lv_goto (tgt := 8) hx hb dX2_misdated_54 (by decide) ?_
    exact hk8 _ _ _ _  hF H locs ls hP hD hS (lv_sub hl [1, 2, 3, 0] rfl)
  have b8 : ∀ (n : Nat) (u : Mem) (v1 : Int32) (v2 : Int32) (v3 : Int32) , F_X2_misdated_8  n u v1 v2 v3 = some (r, u') → BW p l e s m below meth c 2 48 [.ref (a 7), .int x1] D (AC a) (some (.int r)) (wlC cc a u') 4 (wlC cc a u) 8 [(0, .ref (a 7)), (1, .int v1), (2, .int v2), (3, .int v3)] [] := by
    intro n
    induction n with
    | zero => intro u v1 v2 v3 hF; cases hF
    | succ n ih =>
      intro u v1 v2 v3 hF H locs ls hP hD hS hl
      unfold F_X2_misdated_8 at hF
      refine lv_iload_n hx hb dX2_misdated_8 rfl (lv_at hl 3 rfl) ?_
      refine lv_aload_n hx hb dX2_misdated_9 rfl (lv_at hl 0 rfl) ?_
      refine va_get_w S hK hP _ c_RI rfl igX2 0 (by decide) q158 rfl rfl dX2_misdated_10 ?_
      refine va_get_w S hK hP _ (c_AR ⟨by decide, by decide⟩) rfl igX0 1 (by decide) q139 rfl rfl dX2_misdated_13 ?_
      refine lv_icmp_ge (tgt := 57) hx hb dX2_misdated_16 (by decide) (fun c1 => ?_) (fun c1 => ?_)
      · have hF := ite_t hF c1
        refine lv_iconst (v := -1) hx hb dX2_misdated_57 (by decide) ?_
        obtain ⟨rfl, rfl⟩ := sp_eq hF
        exact retI S hr hlocks hP hD hS dX2_misdated_58
      · have hF := ite_f hF c1
        refine lv_iload_n hx hb dX2_misdated_19 rfl (lv_at hl 1 rfl) ?_
        refine lv_iload_n hx hb dX2_misdated_20 rfl (lv_at hl 3 rfl) ?_
        obtain ⟨r3, u2, e4, hF⟩ := bdI_some hF
        refine MM.callSi (m_X2_isIn e4) k_X2_61 S ecOK hEs hK ⟨by decide, by decide⟩ rfl rfl hl.1 (Nat.le_of_ble_eq_true rfl) dX2_misdated_21 ⟨Nat.le_refl _, Nat.le_refl _⟩ hP hD hS (fun H locs hP hD hS => ?_)
        refine lv_if_eq (tgt := 51) hx hb dX2_misdated_24 (by decide) (fun c5 => ?_) (fun c5 => ?_)
        · have hF := ite_t hF c5
          exact b51 _ ih _ _ _ _  hF H locs ls hP hD hS (lv_sub hl [0, 1, 2, 3] rfl)
        · have hF := ite_f hF c5
          refine lv_aload_n hx hb dX2_misdated_27 rfl (lv_at hl 0 rfl) ?_
          refine lv_iload_n hx hb dX2_misdated_28 rfl (lv_at hl 1 rfl) ?_
          refine lv_iload_n hx hb dX2_misdated_29 rfl (lv_at hl 3 rfl) ?_
          obtain ⟨r7, u6, e8, hF⟩ := bdI_some hF
          refine MM.callSi (m_X2_without e8) k_X2_64 S ecOK hEs hK ⟨by decide, by decide⟩ rfl rfl hl.1 (Nat.le_of_ble_eq_true rfl) dX2_misdated_30 ⟨Nat.le_refl _, Nat.le_refl _⟩ hP hD hS (fun H locs hP hD hS => ?_)
          obtain ⟨r10, u9, e11, hF⟩ := bdI_some hF
          refine MM.callVi (m_X2_isRing e11) k_X2_106 S ecOK hEs hK ⟨by decide, by decide⟩ (va_recv hK hP rfl c_RI) rfl rfl hl.1 (Nat.le_of_ble_eq_true rfl) dX2_misdated_33 ⟨Nat.le_refl _, Nat.le_refl _⟩ hP hD hS (fun H locs hP hD hS => ?_)
          refine lv_if_eq (tgt := 51) hx hb dX2_misdated_36 (by decide) (fun c12 => ?_) (fun c12 => ?_)
          · have hF := ite_t hF c12
            exact b51 _ ih _ _ _ _  hF H locs ls hP hD hS (lv_sub hl [0, 1, 2, 3] rfl)
          · have hF := ite_f hF c12
            refine lv_aload_n hx hb dX2_misdated_39 rfl (lv_at hl 0 rfl) ?_
            refine lv_iload_n hx hb dX2_misdated_40 rfl (lv_at hl 3 rfl) ?_
            refine lv_iload_n hx hb dX2_misdated_41 rfl (lv_at hl 1 rfl) ?_
            refine lv_iload_n hx hb dX2_misdated_42 rfl (lv_at hl 2 rfl) ?_
            obtain ⟨r14, u13, e15, hF⟩ := bdI_some hF
            refine MM.callVi (m_X2_fitsSomewhere e15) k_X2_110 S ecOK hEs hK ⟨by decide, by decide⟩ (va_recv hK hP rfl c_RI) rfl rfl hl.1 (Nat.le_of_ble_eq_true rfl) dX2_misdated_43 ⟨Nat.le_refl _, Nat.le_refl _⟩ hP hD hS (fun H locs hP hD hS => ?_)
            refine lv_if_eq (tgt := 51) hx hb dX2_misdated_46 (by decide) (fun c16 => ?_) (fun c16 => ?_)
            · have hF := ite_t hF c16
              exact b51 _ ih _ _ _ _  hF H locs ls hP hD hS (lv_sub hl [0, 1, 2, 3] rfl)
            · have hF := ite_f hF c16
              refine lv_iload_n hx hb dX2_misdated_49 rfl (lv_at hl 3 rfl) ?_
              obtain ⟨rfl, rfl⟩ := sp_eq hF
              exact retI S hr hlocks hP hD hS dX2_misdated_50
  unfold F_X2_misdated at hF
  have b_main : BW p l e s m below meth c 2 48 [.ref (a 7), .int x1] D (AC a) (some (.int r)) (wlC cc a u') 4 (wlC cc a u) 0 [(0, .ref (a 7)), (1, .int x1)] [] := by
    intro H locs ls hP hD hS hl
    refine lv_aload_n hx hb dX2_misdated_0 rfl (lv_at hl 0 rfl) ?_
    refine lv_iload_n hx hb dX2_misdated_1 rfl (lv_at hl 1 rfl) ?_
    obtain ⟨r18, u17, e19, hF⟩ := bdI_some hF
    refine MM.callVi (m_X2_rowByYears e19) k_X2_103 S ecOK hEs hK ⟨by decide, by decide⟩ (va_recv hK hP rfl c_RI) rfl rfl hl.1 (Nat.le_of_ble_eq_true rfl) dX2_misdated_2 ⟨Nat.le_refl _, Nat.le_refl _⟩ hP hD hS (fun H locs hP hD hS => ?_)
    refine lv_istore_n (lv' := [(2, .int _), (0, .ref _), (1, .int _)]) hx hb dX2_misdated_5 rfl hl (by decide) rfl (fun ls hl => ?_)
    refine lv_iconst (v := 0) hx hb dX2_misdated_6 (by decide) ?_
    refine lv_istore_n (lv' := [(3, .int _), (2, .int _), (0, .ref _), (1, .int _)]) hx hb dX2_misdated_7 rfl hl (by decide) rfl (fun ls hl => ?_)
    exact b8 _ _ _ _ _  hF H locs ls hP hD hS (lv_sub hl [2, 3, 1, 0] rfl)
  have hl := lv_entry ([.ref (a 7), .int x1]) (n := 4) (Nat.le_of_ble_eq_true rfl)
  rw [lg_entry_eq]
  generalize (lg_sl ([.ref (a 7), .int x1]) ++ List.replicate (4 - (lg_sl ([.ref (a 7), .int x1])).length) Slot.unset).toArray = ls at hl ⊢
  exact b_main _ _ _ hP hD hS hl

set_option maxRecDepth 100000 in
set_option maxHeartbeats 4000000 in
theorem m_X6_falseDate  {x1 : Int32} {u u' : Mem} {r : Int32}  (hF : F_X6_falseDate  u x1 = some (r, u')) : MC l D cc a tU adK adV yX6_falseDate cX6_falseDate 2 (some .int) 5 116 [.ref (a 0), .int x1] u (some (.int r)) u' := by
  refine MM.ofW (by decide) (fun p e s m below meth c S hr hlocks hK hEs hP hD hS => ?_)
  have S : CallFix p m c cX6_falseDate 2 s _ gtbl RX6 := S
  obtain ⟨hx, hb, hml, hown, hts⟩ := id S
  unfold F_X6_falseDate at hF
  have b_main : BW p l e s m below meth c 5 116 [.ref (a 0), .int x1] D (AC a) (some (.int r)) (wlC cc a u') 2 (wlC cc a u) 0 [(0, .ref (a 0)), (1, .int x1)] [] := by
    intro H locs ls hP hD hS hl
    refine lv_aload_n hx hb dX6_falseDate_0 rfl (lv_at hl 0 rfl) ?_
    refine va_get_w S hK hP _ c_SP rfl igX6 0 (by decide) q259 rfl rfl dX6_falseDate_1 ?_
    refine lv_iload_n hx hb dX6_falseDate_4 rfl (lv_at hl 1 rfl) ?_
    obtain ⟨r2, u1, e3, hF⟩ := bdI_some hF
    refine MM.callVi (m_X0_hasAll ⟨by decide, by decide⟩ e3) k_X6_160 S ecOK hEs hK ⟨by decide, by decide⟩ (va_recv hK hP rfl (c_AR ⟨by decide, by decide⟩)) rfl rfl hl.1 (Nat.le_of_ble_eq_true rfl) dX6_falseDate_5 ⟨Nat.le_refl _, Nat.le_refl _⟩ hP hD hS (fun H locs hP hD hS => ?_)
    refine lv_if_ne (tgt := 18) hx hb dX6_falseDate_8 (by decide) (fun c4 => ?_) (fun c4 => ?_)
    · have hF := ite_f hF c4
      refine lv_aload_n hx hb dX6_falseDate_18 rfl (lv_at hl 0 rfl) ?_
      refine va_get_w S hK hP _ c_SP rfl igX6 2 (by decide) q261 rfl rfl dX6_falseDate_19 ?_
      obtain ⟨u5, e7, hF⟩ := bdV_some hF
      refine MM.callVv (m_X2_weigh e7) k_X6_163 S ecOK hEs hK ⟨by decide, by decide⟩ (va_recv hK hP rfl c_RI) rfl rfl hl.1 (Nat.le_of_ble_eq_true rfl) dX6_falseDate_22 ⟨Nat.le_refl _, Nat.le_refl _⟩ hP hD hS (fun H locs hP hD hS => ?_)
      refine lv_aload_n hx hb dX6_falseDate_25 rfl (lv_at hl 0 rfl) ?_
      refine va_get_w S hK hP _ c_SP rfl igX6 2 (by decide) q261 rfl rfl dX6_falseDate_26 ?_
      refine lv_iload_n hx hb dX6_falseDate_29 rfl (lv_at hl 1 rfl) ?_
      obtain ⟨r9, u8, e10, hF⟩ := bdI_some hF
      refine MM.callVi (m_X2_isRing e10) k_X6_166 S ecOK hEs hK ⟨by decide, by decide⟩ (va_recv hK hP rfl c_RI) rfl rfl hl.1 (Nat.le_of_ble_eq_true rfl) dX6_falseDate_30 ⟨Nat.le_refl _, Nat.le_refl _⟩ hP hD hS (fun H locs hP hD hS => ?_)
      refine lv_if_eq (tgt := 43) hx hb dX6_falseDate_33 (by decide) (fun c11 => ?_) (fun c11 => ?_)
      · have hF := ite_t hF c11
        refine lv_aload_n hx hb dX6_falseDate_43 rfl (lv_at hl 0 rfl) ?_
        refine lv_ldc hx hb hown (hts _ q436) dX6_falseDate_44 ?_
        refine lv_aload_n hx hb dX6_falseDate_46 rfl (lv_at hl 0 rfl) ?_
        refine va_get_w S hK hP _ c_SP rfl igX6 2 (by decide) q261 rfl rfl dX6_falseDate_47 ?_
        refine lv_iload_n hx hb dX6_falseDate_50 rfl (lv_at hl 1 rfl) ?_
        obtain ⟨r13, u12, e14, hF⟩ := bdI_some hF
        refine MM.callVi (m_X2_misdated e14) k_X6_192 S ecOK hEs hK ⟨by decide, by decide⟩ (va_recv hK hP rfl c_RI) rfl rfl hl.1 (Nat.le_of_ble_eq_true rfl) dX6_falseDate_51 ⟨Nat.le_refl _, Nat.le_refl _⟩ hP hD hS (fun H locs hP hD hS => ?_)
        obtain ⟨r16, u15, e17, hF⟩ := bdI_some hF
        refine MM.callVi (m_X6_printOr e17) k_X6_189 S ecOK hEs hK ⟨by decide, by decide⟩ (va_recv hK hP rfl c_SP) rfl rfl hl.1 (Nat.le_of_ble_eq_true rfl) dX6_falseDate_54 ⟨Nat.le_refl _, Nat.le_refl _⟩ hP hD hS (fun H locs hP hD hS => ?_)
        obtain ⟨rfl, rfl⟩ := sp_eq hF
        exact retI S hr hlocks hP hD hS dX6_falseDate_57
      · have hF := ite_f hF c11
        refine lv_aload_n hx hb dX6_falseDate_36 rfl (lv_at hl 0 rfl) ?_
        refine lv_ldc hx hb hown (hts _ q442) dX6_falseDate_37 ?_
        obtain ⟨r19, u18, e20, hF⟩ := bdI_some hF
        refine MM.callVi (m_X6_found e20) k_X6_64 S ecOK hEs hK ⟨by decide, by decide⟩ (va_recv hK hP rfl c_SP) rfl rfl hl.1 (Nat.le_of_ble_eq_true rfl) dX6_falseDate_39 ⟨Nat.le_refl _, Nat.le_refl _⟩ hP hD hS (fun H locs hP hD hS => ?_)
        obtain ⟨rfl, rfl⟩ := sp_eq hF
        exact retI S hr hlocks hP hD hS dX6_falseDate_42
    · have hF := ite_t hF c4
      refine lv_aload_n hx hb dX6_falseDate_11 rfl (lv_at hl 0 rfl) ?_
      refine lv_ldc hx hb hown (hts _ q291) dX6_falseDate_12 ?_
      obtain ⟨r22, u21, e23, hF⟩ := bdI_some hF
      refine MM.callVi (m_X6_found e23) k_X6_64 S ecOK hEs hK ⟨by decide, by decide⟩ (va_recv hK hP rfl c_SP) rfl rfl hl.1 (Nat.le_of_ble_eq_true rfl) dX6_falseDate_14 ⟨Nat.le_refl _, Nat.le_refl _⟩ hP hD hS (fun H locs hP hD hS => ?_)
      obtain ⟨rfl, rfl⟩ := sp_eq hF
      exact retI S hr hlocks hP hD hS dX6_falseDate_17
  have hl := lv_entry ([.ref (a 0), .int x1]) (n := 2) (Nat.le_of_ble_eq_true rfl)
  rw [lg_entry_eq]
  generalize (lg_sl ([.ref (a 0), .int x1]) ++ List.replicate (2 - (lg_sl ([.ref (a 0), .int x1])).length) Slot.unset).toArray = ls at hl ⊢
  exact b_main _ _ _ hP hD hS hl

set_option maxRecDepth 100000 in
set_option maxHeartbeats 4000000 in
theorem m_X2_surelyHad  {x1 : Int32} {x2 : Int32} {u u' : Mem} {r : Int64}  (hF : F_X2_surelyHad  u x1 x2 = some (r, u')) : MC l D cc a tU adK adV yX2_surelyHad cX2_surelyHad 8 (some .long) 2 48 [.ref (a 7), .int x1, .int x2] u (some (.long r)) u' := by
  refine MM.ofW (by decide) (fun p e s m below meth c S hr hlocks hK hEs hP hD hS => ?_)
  have S : CallFix p m c cX2_surelyHad 8 s _ gtbl RX2 := S
  obtain ⟨hx, hb, hml, hown, hts⟩ := id S
  have b75 : ∀  (u : Mem) (v4 : Int64) , F_X2_surelyHad_75  u v4 = some (r, u') → BW p l e s m below meth c 2 48 [.ref (a 7), .int x1, .int x2] D (AC a) (some (.long r)) (wlC cc a u') 8 (wlC cc a u) 75 [(4, .long v4)] [] := by
    intro  u v4 hF H locs ls hP hD hS hl
    unfold F_X2_surelyHad_75 at hF
    refine lv_lload hx hb dX2_surelyHad_75 (lv_at hl 0 rfl) ?_
    obtain ⟨rfl, rfl⟩ := sp_eq hF
    exact retL S hr hlocks hP hD hS dX2_surelyHad_77
  have b59 : ∀ (k12 : Mem → Int32 → Int32 → Int64 → Int32 → Option (Int64 × Mem)) (hk12 : ∀ (u : Mem) (v2 : Int32) (v3 : Int32) (v4 : Int64) (v6 : Int32) , k12 u v2 v3 v4 v6 = some (r, u') → BW p l e s m below meth c 2 48 [.ref (a 7), .int x1, .int x2] D (AC a) (some (.long r)) (wlC cc a u') 8 (wlC cc a u) 12 [(0, .ref (a 7)), (2, .int v2), (3, .int v3), (4, .long v4), (6, .int v6)] []) (u : Mem) (v2 : Int32) (v3 : Int32) (v4 : Int64) (v6 : Int32) (v7 : Nat) (hv7 : 28 ≤ v7 ∧ v7 ≤ 63), F_X2_surelyHad_59 k12 u v2 v3 v4 v6 v7 = some (r, u') → BW p l e s m below meth c 2 48 [.ref (a 7), .int x1, .int x2] D (AC a) (some (.long r)) (wlC cc a u') 8 (wlC cc a u) 59 [(0, .ref (a 7)), (2, .int v2), (3, .int v3), (4, .long v4), (6, .int v6), (7, .ref (a v7))] [] := by
    intro k12 hk12 u v2 v3 v4 v6 v7 hv7 hF H locs ls hP hD hS hl
    unfold F_X2_surelyHad_59 at hF
    refine lv_lload hx hb dX2_surelyHad_59 (lv_at hl 3 rfl) ?_
    refine lv_aload hx hb dX2_surelyHad_61 (lv_at hl 5 rfl) ?_
    obtain ⟨r2, u1, e3, hF⟩ := bdL_some hF
    refine MM.callVl (m_X1_shown hv7 e3) k_X2_126 S ecOK hEs hK ⟨by decide, by decide⟩ (va_recv hK hP rfl (c_PR hv7)) rfl rfl hl.1 (Nat.le_of_ble_eq_true rfl) dX2_surelyHad_63 ⟨Nat.le_refl _, Nat.le_refl _⟩ hP hD hS (fun H locs hP hD hS => ?_)
    refine lv_lor hx hb dX2_surelyHad_66 ?_
    refine lv_lstore (lv' := [(4, .long _), (0, .ref _), (2, .int _), (3, .int _), (6, .int _), (7, .ref _)]) hx hb dX2_surelyHad_67 hl (by decide) rfl (fun ls hl => ?_)
    refine lv_inc1 (k := 4) (lv' := [(6, .int _), (4, .long _), (0, .ref _), (2, .int _), (3, .int _), (7, .ref _)]) hx hb dX2_surelyHad_69 hl rfl (by decide) rfl (fun ls hl => ?_)
    refine lv_goto (tgt := 12) hx hb dX2_surelyHad_72 (by decide) ?_
    exact hk12 _ _ _ _ _  hF H locs ls hP hD hS (lv_sub hl [2, 3, 4, 1, 0] rfl)
  have b12 : ∀ (n : Nat) (u : Mem) (v2 : Int32) (v3 : Int32) (v4 : Int64) (v6 : Int32) , F_X2_surelyHad_12  n u v2 v3 v4 v6 = some (r, u') → BW p l e s m below meth c 2 48 [.ref (a 7), .int x1, .int x2] D (AC a) (some (.long r)) (wlC cc a u') 8 (wlC cc a u) 12 [(0, .ref (a 7)), (2, .int v2), (3, .int v3), (4, .long v4), (6, .int v6)] [] := by
    intro n
    induction n with
    | zero => intro u v2 v3 v4 v6 hF; cases hF
    | succ n ih =>
      intro u v2 v3 v4 v6 hF H locs ls hP hD hS hl
      unfold F_X2_surelyHad_12 at hF
      refine lv_iload hx hb dX2_surelyHad_12 (lv_at hl 4 rfl) ?_
      refine lv_iload_n hx hb dX2_surelyHad_14 rfl (lv_at hl 2 rfl) ?_
      refine lv_icmp_ge (tgt := 75) hx hb dX2_surelyHad_15 (by decide) (fun c4 => ?_) (fun c4 => ?_)
      · have hF := ite_t hF c4
        exact b75 _ _  hF H locs ls hP hD hS (lv_sub hl [3] rfl)
      · have hF := ite_f hF c4
        refine lv_aload_n hx hb dX2_surelyHad_18 rfl (lv_at hl 0 rfl) ?_
        refine va_get_w S hK hP _ c_RI rfl igX2 0 (by decide) q158 rfl rfl dX2_surelyHad_19 ?_
        refine va_get_w S hK hP _ (c_AR ⟨by decide, by decide⟩) rfl igX0 0 (by decide) q137 rfl rfl dX2_surelyHad_22 ?_
        refine lv_aload_n hx hb dX2_surelyHad_25 rfl (lv_at hl 0 rfl) ?_
        refine va_get_w S hK hP _ c_RI rfl igX2 3 (by decide) q161 rfl rfl dX2_surelyHad_26 ?_
        refine lv_iload hx hb dX2_surelyHad_29 (lv_at hl 4 rfl) ?_
        obtain ⟨hin5, hF⟩ := gd_some hF
        refine cIald S hK hP ⟨rfl, by decide⟩ rfl hin5 dX2_surelyHad_31 ?_
        obtain ⟨hin6, hF⟩ := gd_some hF
        have hp7 := r_PR (t := 1) ⟨by decide, by decide⟩ hin6
        refine cPald S hK hP ⟨by decide, by decide⟩ hin6 dX2_surelyHad_32 ?_
        refine lv_astore (lv' := [(7, .ref _), (0, .ref _), (2, .int _), (3, .int _), (4, .long _), (6, .int _)]) hx hb dX2_surelyHad_33 hl (by decide) rfl (fun ls hl => ?_)
        refine lv_aload hx hb dX2_surelyHad_35 (lv_at hl 0 rfl) ?_
        refine va_get_w S hK hP _ (c_PR hp7) rfl igX1 2 (by decide) q113 rfl rfl dX2_surelyHad_37 ?_
        refine lv_iload_n hx hb dX2_surelyHad_40 rfl (lv_at hl 2 rfl) ?_
        refine lv_icmp_le (tgt := 47) hx hb dX2_surelyHad_41 (by decide) (fun c8 => ?_) (fun c8 => ?_)
        · have hF := ite_t hF c8
          refine lv_aload hx hb dX2_surelyHad_47 (lv_at hl 0 rfl) ?_
          refine va_get_w S hK hP _ (c_PR hp7) rfl igX1 0 (by decide) q104 rfl rfl dX2_surelyHad_49 ?_
          refine lv_iconst (v := 4) hx hb dX2_surelyHad_52 (by decide) ?_
          refine lv_icmp_ne (tgt := 59) hx hb dX2_surelyHad_53 (by decide) (fun c9 => ?_) (fun c9 => ?_)
          · have hF := ite_f hF c9
            exact b59 _ ih _ _ _ _ _ _ hp7 hF H locs ls hP hD hS (lv_sub hl [1, 2, 3, 4, 5, 0] rfl)
          · have hF := ite_t hF c9
            refine lv_lconst (v := 0) hx hb dX2_surelyHad_56 (by decide) ?_
            refine lv_lstore (lv' := [(4, .long _), (7, .ref _), (0, .ref _), (2, .int _), (3, .int _), (6, .int _)]) hx hb dX2_surelyHad_57 hl (by decide) rfl (fun ls hl => ?_)
            exact b59 _ ih _ _ _ _ _ _ hp7 hF H locs ls hP hD hS (lv_sub hl [2, 3, 4, 0, 5, 1] rfl)
        · have hF := ite_f hF c8
          refine lv_goto (tgt := 75) hx hb dX2_surelyHad_44 (by decide) ?_
          exact b75 _ _  hF H locs ls hP hD hS (lv_sub hl [4] rfl)
  unfold F_X2_surelyHad at hF
  have b_main : BW p l e s m below meth c 2 48 [.ref (a 7), .int x1, .int x2] D (AC a) (some (.long r)) (wlC cc a u') 8 (wlC cc a u) 0 [(0, .ref (a 7)), (1, .int x1), (2, .int x2)] [] := by
    intro H locs ls hP hD hS hl
    refine lv_aload_n hx hb dX2_surelyHad_0 rfl (lv_at hl 0 rfl) ?_
    refine lv_iload_n hx hb dX2_surelyHad_1 rfl (lv_at hl 1 rfl) ?_
    obtain ⟨r11, u10, e12, hF⟩ := bdI_some hF
    refine MM.callVi (m_X2_rowByYears e12) k_X2_103 S ecOK hEs hK ⟨by decide, by decide⟩ (va_recv hK hP rfl c_RI) rfl rfl hl.1 (Nat.le_of_ble_eq_true rfl) dX2_surelyHad_2 ⟨Nat.le_refl _, Nat.le_refl _⟩ hP hD hS (fun H locs hP hD hS => ?_)
    refine lv_istore_n (lv' := [(3, .int _), (0, .ref _), (1, .int _), (2, .int _)]) hx hb dX2_surelyHad_5 rfl hl (by decide) rfl (fun ls hl => ?_)
    refine lv_lconst (v := 0) hx hb dX2_surelyHad_6 (by decide) ?_
    refine lv_lstore (lv' := [(4, .long _), (3, .int _), (0, .ref _), (1, .int _), (2, .int _)]) hx hb dX2_surelyHad_7 hl (by decide) rfl (fun ls hl => ?_)
    refine lv_iconst (v := 0) hx hb dX2_surelyHad_9 (by decide) ?_
    refine lv_istore (lv' := [(6, .int _), (4, .long _), (3, .int _), (0, .ref _), (1, .int _), (2, .int _)]) hx hb dX2_surelyHad_10 hl (by decide) rfl (fun ls hl => ?_)
    exact b12 _ _ _ _ _ _  hF H locs ls hP hD hS (lv_sub hl [3, 5, 2, 1, 0] rfl)
  have hl := lv_entry ([.ref (a 7), .int x1, .int x2]) (n := 8) (Nat.le_of_ble_eq_true rfl)
  rw [lg_entry_eq]
  generalize (lg_sl ([.ref (a 7), .int x1, .int x2]) ++ List.replicate (8 - (lg_sl ([.ref (a 7), .int x1, .int x2])).length) Slot.unset).toArray = ls at hl ⊢
  exact b_main _ _ _ hP hD hS hl

set_option maxRecDepth 100000 in
set_option maxHeartbeats 4000000 in
theorem m_X6_had  {x1 : Int32} {x2 : Int32} {u u' : Mem} {r : Int64}  (hF : F_X6_had  u x1 x2 = some (r, u')) : MC l D cc a tU adK adV yX6_had cX6_had 3 (some .long) 3 75 [.ref (a 0), .int x1, .int x2] u (some (.long r)) u' := by
  refine MM.ofW (by decide) (fun p e s m below meth c S hr hlocks hK hEs hP hD hS => ?_)
  have S : CallFix p m c cX6_had 3 s _ gtbl RX6 := S
  obtain ⟨hx, hb, hml, hown, hts⟩ := id S
  have b18 : ∀  (u : Mem)  , F_X6_had_18  u  = some (r, u') → BW p l e s m below meth c 3 75 [.ref (a 0), .int x1, .int x2] D (AC a) (some (.long r)) (wlC cc a u') 3 (wlC cc a u) 18 [(0, .ref (a 0))] [] := by
    intro  u  hF H locs ls hP hD hS hl
    unfold F_X6_had_18 at hF
    refine lv_aload_n hx hb dX6_had_18 rfl (lv_at hl 0 rfl) ?_
    refine lv_ldc hx hb hown (hts _ q291) dX6_had_19 ?_
    obtain ⟨r2, u1, e3, hF⟩ := bdI_some hF
    refine MM.callVi (m_X6_found e3) k_X6_64 S ecOK hEs hK ⟨by decide, by decide⟩ (va_recv hK hP rfl c_SP) rfl rfl hl.1 (Nat.le_of_ble_eq_true rfl) dX6_had_21 ⟨Nat.le_refl _, Nat.le_refl _⟩ hP hD hS (fun H locs hP hD hS => ?_)
    refine lv_i2l hx hb dX6_had_24 rfl ?_
    obtain ⟨rfl, rfl⟩ := sp_eq hF
    exact retL S hr hlocks hP hD hS dX6_had_25
  unfold F_X6_had at hF
  have b_main : BW p l e s m below meth c 3 75 [.ref (a 0), .int x1, .int x2] D (AC a) (some (.long r)) (wlC cc a u') 3 (wlC cc a u) 0 [(0, .ref (a 0)), (1, .int x1), (2, .int x2)] [] := by
    intro H locs ls hP hD hS hl
    refine lv_aload_n hx hb dX6_had_0 rfl (lv_at hl 0 rfl) ?_
    refine va_get_w S hK hP _ c_SP rfl igX6 0 (by decide) q259 rfl rfl dX6_had_1 ?_
    refine lv_iload_n hx hb dX6_had_4 rfl (lv_at hl 1 rfl) ?_
    obtain ⟨r5, u4, e6, hF⟩ := bdI_some hF
    refine MM.callVi (m_X0_hasAll ⟨by decide, by decide⟩ e6) k_X6_160 S ecOK hEs hK ⟨by decide, by decide⟩ (va_recv hK hP rfl (c_AR ⟨by decide, by decide⟩)) rfl rfl hl.1 (Nat.le_of_ble_eq_true rfl) dX6_had_5 ⟨Nat.le_refl _, Nat.le_refl _⟩ hP hD hS (fun H locs hP hD hS => ?_)
    refine lv_if_eq (tgt := 18) hx hb dX6_had_8 (by decide) (fun c7 => ?_) (fun c7 => ?_)
    · have hF := ite_t hF c7
      exact b18 _  hF H locs ls hP hD hS (lv_sub hl [0] rfl)
    · have hF := ite_f hF c7
      refine lv_iload_n hx hb dX6_had_11 rfl (lv_at hl 2 rfl) ?_
      obtain ⟨r9, u8, e10, hF⟩ := bdI_some hF
      refine MM.callSi (m_X6_isYear e10) k_X6_123 S ecOK hEs hK ⟨by decide, by decide⟩ rfl rfl hl.1 (Nat.le_of_ble_eq_true rfl) dX6_had_12 ⟨Nat.le_refl _, Nat.le_refl _⟩ hP hD hS (fun H locs hP hD hS => ?_)
      refine lv_if_ne (tgt := 26) hx hb dX6_had_15 (by decide) (fun c11 => ?_) (fun c11 => ?_)
      · have hF := ite_f hF c11
        refine lv_aload_n hx hb dX6_had_26 rfl (lv_at hl 0 rfl) ?_
        refine va_get_w S hK hP _ c_SP rfl igX6 2 (by decide) q261 rfl rfl dX6_had_27 ?_
        refine lv_iload_n hx hb dX6_had_30 rfl (lv_at hl 1 rfl) ?_
        refine lv_iload_n hx hb dX6_had_31 rfl (lv_at hl 2 rfl) ?_
        obtain ⟨r13, u12, e14, hF⟩ := bdL_some hF
        refine MM.callVl (m_X2_surelyHad e14) k_X6_195 S ecOK hEs hK ⟨by decide, by decide⟩ (va_recv hK hP rfl c_RI) rfl rfl hl.1 (Nat.le_of_ble_eq_true rfl) dX6_had_32 ⟨Nat.le_refl _, Nat.le_refl _⟩ hP hD hS (fun H locs hP hD hS => ?_)
        obtain ⟨rfl, rfl⟩ := sp_eq hF
        exact retL S hr hlocks hP hD hS dX6_had_35
      · have hF := ite_t hF c11
        exact b18 _  hF H locs ls hP hD hS (lv_sub hl [0] rfl)
  have hl := lv_entry ([.ref (a 0), .int x1, .int x2]) (n := 3) (Nat.le_of_ble_eq_true rfl)
  rw [lg_entry_eq]
  generalize (lg_sl ([.ref (a 0), .int x1, .int x2]) ++ List.replicate (3 - (lg_sl ([.ref (a 0), .int x1, .int x2])).length) Slot.unset).toArray = ls at hl ⊢
  exact b_main _ _ _ hP hD hS hl

set_option maxRecDepth 100000 in
set_option maxHeartbeats 4000000 in
theorem m_X2_surelyHadNot  {x1 : Int32} {x2 : Int32} {u u' : Mem} {r : Int64}  (hF : F_X2_surelyHadNot  u x1 x2 = some (r, u')) : MC l D cc a tU adK adV yX2_surelyHadNot cX2_surelyHadNot 8 (some .long) 2 48 [.ref (a 7), .int x1, .int x2] u (some (.long r)) u' := by
  refine MM.ofW (by decide) (fun p e s m below meth c S hr hlocks hK hEs hP hD hS => ?_)
  have S : CallFix p m c cX2_surelyHadNot 8 s _ gtbl RX2 := S
  obtain ⟨hx, hb, hml, hown, hts⟩ := id S
  have b81 : ∀  (u : Mem) (v4 : Int64) , F_X2_surelyHadNot_81  u v4 = some (r, u') → BW p l e s m below meth c 2 48 [.ref (a 7), .int x1, .int x2] D (AC a) (some (.long r)) (wlC cc a u') 8 (wlC cc a u) 81 [(4, .long v4)] [] := by
    intro  u v4 hF H locs ls hP hD hS hl
    unfold F_X2_surelyHadNot_81 at hF
    refine lv_lload hx hb dX2_surelyHadNot_81 (lv_at hl 0 rfl) ?_
    obtain ⟨rfl, rfl⟩ := sp_eq hF
    exact retL S hr hlocks hP hD hS dX2_surelyHadNot_83
  have b75 : ∀ (k12 : Mem → Int32 → Int32 → Int64 → Int32 → Option (Int64 × Mem)) (hk12 : ∀ (u : Mem) (v2 : Int32) (v3 : Int32) (v4 : Int64) (v6 : Int32) , k12 u v2 v3 v4 v6 = some (r, u') → BW p l e s m below meth c 2 48 [.ref (a 7), .int x1, .int x2] D (AC a) (some (.long r)) (wlC cc a u') 8 (wlC cc a u) 12 [(0, .ref (a 7)), (2, .int v2), (3, .int v3), (4, .long v4), (6, .int v6)] []) (u : Mem) (v2 : Int32) (v3 : Int32) (v4 : Int64) (v6 : Int32) , F_X2_surelyHadNot_75 k12 u v2 v3 v4 v6 = some (r, u') → BW p l e s m below meth c 2 48 [.ref (a 7), .int x1, .int x2] D (AC a) (some (.long r)) (wlC cc a u') 8 (wlC cc a u) 75 [(0, .ref (a 7)), (2, .int v2), (3, .int v3), (4, .long v4), (6, .int v6)] [] := by
    intro k12 hk12 u v2 v3 v4 v6 hF H locs ls hP hD hS hl
    unfold F_X2_surelyHadNot_75 at hF
    refine lv_inc1 (k := 4) (lv' := [(6, .int _), (0, .ref _), (2, .int _), (3, .int _), (4, .long _)]) hx hb dX2_surelyHadNot_75 hl rfl (by decide) rfl (fun ls hl => ?_)
    refine lv_goto (tgt := 12) hx hb dX2_surelyHadNot_78 (by decide) ?_
    exact hk12 _ _ _ _ _  hF H locs ls hP hD hS (lv_sub hl [1, 2, 3, 4, 0] rfl)
  have b56 : ∀ (k12 : Mem → Int32 → Int32 → Int64 → Int32 → Option (Int64 × Mem)) (hk12 : ∀ (u : Mem) (v2 : Int32) (v3 : Int32) (v4 : Int64) (v6 : Int32) , k12 u v2 v3 v4 v6 = some (r, u') → BW p l e s m below meth c 2 48 [.ref (a 7), .int x1, .int x2] D (AC a) (some (.long r)) (wlC cc a u') 8 (wlC cc a u) 12 [(0, .ref (a 7)), (2, .int v2), (3, .int v3), (4, .long v4), (6, .int v6)] []) (u : Mem) (v2 : Int32) (v3 : Int32) (v4 : Int64) (v6 : Int32) (v7 : Nat) (hv7 : 28 ≤ v7 ∧ v7 ≤ 63), F_X2_surelyHadNot_56 k12 u v2 v3 v4 v6 v7 = some (r, u') → BW p l e s m below meth c 2 48 [.ref (a 7), .int x1, .int x2] D (AC a) (some (.long r)) (wlC cc a u') 8 (wlC cc a u) 56 [(0, .ref (a 7)), (2, .int v2), (3, .int v3), (4, .long v4), (6, .int v6), (7, .ref (a v7))] [] := by
    intro k12 hk12 u v2 v3 v4 v6 v7 hv7 hF H locs ls hP hD hS hl
    unfold F_X2_surelyHadNot_56 at hF
    refine lv_aload hx hb dX2_surelyHadNot_56 (lv_at hl 5 rfl) ?_
    refine va_get_w S hK hP _ (c_PR hv7) rfl igX1 2 (by decide) q113 rfl rfl dX2_surelyHadNot_58 ?_
    refine lv_iload_n hx hb dX2_surelyHadNot_61 rfl (lv_at hl 1 rfl) ?_
    refine lv_icmp_lt (tgt := 75) hx hb dX2_surelyHadNot_62 (by decide) (fun c1 => ?_) (fun c1 => ?_)
    · have hF := ite_t hF c1
      exact b75 _ hk12 _ _ _ _ _  hF H locs ls hP hD hS (lv_sub hl [0, 1, 2, 3, 4] rfl)
    · have hF := ite_f hF c1
      refine lv_lload hx hb dX2_surelyHadNot_65 (lv_at hl 3 rfl) ?_
      refine lv_aload hx hb dX2_surelyHadNot_67 (lv_at hl 5 rfl) ?_
      obtain ⟨r3, u2, e4, hF⟩ := bdL_some hF
      refine MM.callVl (m_X1_bare hv7 e4) k_X2_130 S ecOK hEs hK ⟨by decide, by decide⟩ (va_recv hK hP rfl (c_PR hv7)) rfl rfl hl.1 (Nat.le_of_ble_eq_true rfl) dX2_surelyHadNot_69 ⟨Nat.le_refl _, Nat.le_refl _⟩ hP hD hS (fun H locs hP hD hS => ?_)
      refine lv_lor hx hb dX2_surelyHadNot_72 ?_
      refine lv_lstore (lv' := [(4, .long _), (0, .ref _), (2, .int _), (3, .int _), (6, .int _), (7, .ref _)]) hx hb dX2_surelyHadNot_73 hl (by decide) rfl (fun ls hl => ?_)
      exact b75 _ hk12 _ _ _ _ _  hF H locs ls hP hD hS (lv_sub hl [1, 2, 3, 0, 4] rfl)
  have b12 : ∀ (n : Nat) (u : Mem) (v2 : Int32) (v3 : Int32) (v4 : Int64) (v6 : Int32) , F_X2_surelyHadNot_12  n u v2 v3 v4 v6 = some (r, u') → BW p l e s m below meth c 2 48 [.ref (a 7), .int x1, .int x2] D (AC a) (some (.long r)) (wlC cc a u') 8 (wlC cc a u) 12 [(0, .ref (a 7)), (2, .int v2), (3, .int v3), (4, .long v4), (6, .int v6)] [] := by
    intro n
    induction n with
    | zero => intro u v2 v3 v4 v6 hF; cases hF
    | succ n ih =>
      intro u v2 v3 v4 v6 hF H locs ls hP hD hS hl
      unfold F_X2_surelyHadNot_12 at hF
      refine lv_iload hx hb dX2_surelyHadNot_12 (lv_at hl 4 rfl) ?_
      refine lv_iload_n hx hb dX2_surelyHadNot_14 rfl (lv_at hl 2 rfl) ?_
      refine lv_icmp_ge (tgt := 81) hx hb dX2_surelyHadNot_15 (by decide) (fun c5 => ?_) (fun c5 => ?_)
      · have hF := ite_t hF c5
        exact b81 _ _  hF H locs ls hP hD hS (lv_sub hl [3] rfl)
      · have hF := ite_f hF c5
        refine lv_aload_n hx hb dX2_surelyHadNot_18 rfl (lv_at hl 0 rfl) ?_
        refine va_get_w S hK hP _ c_RI rfl igX2 0 (by decide) q158 rfl rfl dX2_surelyHadNot_19 ?_
        refine va_get_w S hK hP _ (c_AR ⟨by decide, by decide⟩) rfl igX0 0 (by decide) q137 rfl rfl dX2_surelyHadNot_22 ?_
        refine lv_aload_n hx hb dX2_surelyHadNot_25 rfl (lv_at hl 0 rfl) ?_
        refine va_get_w S hK hP _ c_RI rfl igX2 3 (by decide) q161 rfl rfl dX2_surelyHadNot_26 ?_
        refine lv_iload hx hb dX2_surelyHadNot_29 (lv_at hl 4 rfl) ?_
        obtain ⟨hin6, hF⟩ := gd_some hF
        refine cIald S hK hP ⟨rfl, by decide⟩ rfl hin6 dX2_surelyHadNot_31 ?_
        obtain ⟨hin7, hF⟩ := gd_some hF
        have hp8 := r_PR (t := 1) ⟨by decide, by decide⟩ hin7
        refine cPald S hK hP ⟨by decide, by decide⟩ hin7 dX2_surelyHadNot_32 ?_
        refine lv_astore (lv' := [(7, .ref _), (0, .ref _), (2, .int _), (3, .int _), (4, .long _), (6, .int _)]) hx hb dX2_surelyHadNot_33 hl (by decide) rfl (fun ls hl => ?_)
        refine lv_aload hx hb dX2_surelyHadNot_35 (lv_at hl 0 rfl) ?_
        refine va_get_w S hK hP _ (c_PR hp8) rfl igX1 2 (by decide) q113 rfl rfl dX2_surelyHadNot_37 ?_
        refine lv_iload_n hx hb dX2_surelyHadNot_40 rfl (lv_at hl 2 rfl) ?_
        refine lv_icmp_le (tgt := 56) hx hb dX2_surelyHadNot_41 (by decide) (fun c9 => ?_) (fun c9 => ?_)
        · have hF := ite_t hF c9
          exact b56 _ ih _ _ _ _ _ _ hp8 hF H locs ls hP hD hS (lv_sub hl [1, 2, 3, 4, 5, 0] rfl)
        · have hF := ite_f hF c9
          refine lv_aload hx hb dX2_surelyHadNot_44 (lv_at hl 0 rfl) ?_
          refine va_get_w S hK hP _ (c_PR hp8) rfl igX1 0 (by decide) q104 rfl rfl dX2_surelyHadNot_46 ?_
          refine lv_iconst (v := 4) hx hb dX2_surelyHadNot_49 (by decide) ?_
          refine lv_icmp_ne (tgt := 56) hx hb dX2_surelyHadNot_50 (by decide) (fun c10 => ?_) (fun c10 => ?_)
          · have hF := ite_f hF c10
            exact b56 _ ih _ _ _ _ _ _ hp8 hF H locs ls hP hD hS (lv_sub hl [1, 2, 3, 4, 5, 0] rfl)
          · have hF := ite_t hF c10
            refine lv_goto (tgt := 81) hx hb dX2_surelyHadNot_53 (by decide) ?_
            exact b81 _ _  hF H locs ls hP hD hS (lv_sub hl [4] rfl)
  unfold F_X2_surelyHadNot at hF
  have b_main : BW p l e s m below meth c 2 48 [.ref (a 7), .int x1, .int x2] D (AC a) (some (.long r)) (wlC cc a u') 8 (wlC cc a u) 0 [(0, .ref (a 7)), (1, .int x1), (2, .int x2)] [] := by
    intro H locs ls hP hD hS hl
    refine lv_aload_n hx hb dX2_surelyHadNot_0 rfl (lv_at hl 0 rfl) ?_
    refine lv_iload_n hx hb dX2_surelyHadNot_1 rfl (lv_at hl 1 rfl) ?_
    obtain ⟨r12, u11, e13, hF⟩ := bdI_some hF
    refine MM.callVi (m_X2_rowByYears e13) k_X2_103 S ecOK hEs hK ⟨by decide, by decide⟩ (va_recv hK hP rfl c_RI) rfl rfl hl.1 (Nat.le_of_ble_eq_true rfl) dX2_surelyHadNot_2 ⟨Nat.le_refl _, Nat.le_refl _⟩ hP hD hS (fun H locs hP hD hS => ?_)
    refine lv_istore_n (lv' := [(3, .int _), (0, .ref _), (1, .int _), (2, .int _)]) hx hb dX2_surelyHadNot_5 rfl hl (by decide) rfl (fun ls hl => ?_)
    refine lv_lconst (v := 0) hx hb dX2_surelyHadNot_6 (by decide) ?_
    refine lv_lstore (lv' := [(4, .long _), (3, .int _), (0, .ref _), (1, .int _), (2, .int _)]) hx hb dX2_surelyHadNot_7 hl (by decide) rfl (fun ls hl => ?_)
    refine lv_iconst (v := 0) hx hb dX2_surelyHadNot_9 (by decide) ?_
    refine lv_istore (lv' := [(6, .int _), (4, .long _), (3, .int _), (0, .ref _), (1, .int _), (2, .int _)]) hx hb dX2_surelyHadNot_10 hl (by decide) rfl (fun ls hl => ?_)
    exact b12 _ _ _ _ _ _  hF H locs ls hP hD hS (lv_sub hl [3, 5, 2, 1, 0] rfl)
  have hl := lv_entry ([.ref (a 7), .int x1, .int x2]) (n := 8) (Nat.le_of_ble_eq_true rfl)
  rw [lg_entry_eq]
  generalize (lg_sl ([.ref (a 7), .int x1, .int x2]) ++ List.replicate (8 - (lg_sl ([.ref (a 7), .int x1, .int x2])).length) Slot.unset).toArray = ls at hl ⊢
  exact b_main _ _ _ hP hD hS hl

set_option maxRecDepth 100000 in
set_option maxHeartbeats 4000000 in
theorem m_X6_hadNot  {x1 : Int32} {x2 : Int32} {u u' : Mem} {r : Int64}  (hF : F_X6_hadNot  u x1 x2 = some (r, u')) : MC l D cc a tU adK adV yX6_hadNot cX6_hadNot 3 (some .long) 3 75 [.ref (a 0), .int x1, .int x2] u (some (.long r)) u' := by
  refine MM.ofW (by decide) (fun p e s m below meth c S hr hlocks hK hEs hP hD hS => ?_)
  have S : CallFix p m c cX6_hadNot 3 s _ gtbl RX6 := S
  obtain ⟨hx, hb, hml, hown, hts⟩ := id S
  have b18 : ∀  (u : Mem)  , F_X6_hadNot_18  u  = some (r, u') → BW p l e s m below meth c 3 75 [.ref (a 0), .int x1, .int x2] D (AC a) (some (.long r)) (wlC cc a u') 3 (wlC cc a u) 18 [(0, .ref (a 0))] [] := by
    intro  u  hF H locs ls hP hD hS hl
    unfold F_X6_hadNot_18 at hF
    refine lv_aload_n hx hb dX6_hadNot_18 rfl (lv_at hl 0 rfl) ?_
    refine lv_ldc hx hb hown (hts _ q291) dX6_hadNot_19 ?_
    obtain ⟨r2, u1, e3, hF⟩ := bdI_some hF
    refine MM.callVi (m_X6_found e3) k_X6_64 S ecOK hEs hK ⟨by decide, by decide⟩ (va_recv hK hP rfl c_SP) rfl rfl hl.1 (Nat.le_of_ble_eq_true rfl) dX6_hadNot_21 ⟨Nat.le_refl _, Nat.le_refl _⟩ hP hD hS (fun H locs hP hD hS => ?_)
    refine lv_i2l hx hb dX6_hadNot_24 rfl ?_
    obtain ⟨rfl, rfl⟩ := sp_eq hF
    exact retL S hr hlocks hP hD hS dX6_hadNot_25
  unfold F_X6_hadNot at hF
  have b_main : BW p l e s m below meth c 3 75 [.ref (a 0), .int x1, .int x2] D (AC a) (some (.long r)) (wlC cc a u') 3 (wlC cc a u) 0 [(0, .ref (a 0)), (1, .int x1), (2, .int x2)] [] := by
    intro H locs ls hP hD hS hl
    refine lv_aload_n hx hb dX6_hadNot_0 rfl (lv_at hl 0 rfl) ?_
    refine va_get_w S hK hP _ c_SP rfl igX6 0 (by decide) q259 rfl rfl dX6_hadNot_1 ?_
    refine lv_iload_n hx hb dX6_hadNot_4 rfl (lv_at hl 1 rfl) ?_
    obtain ⟨r5, u4, e6, hF⟩ := bdI_some hF
    refine MM.callVi (m_X0_hasAll ⟨by decide, by decide⟩ e6) k_X6_160 S ecOK hEs hK ⟨by decide, by decide⟩ (va_recv hK hP rfl (c_AR ⟨by decide, by decide⟩)) rfl rfl hl.1 (Nat.le_of_ble_eq_true rfl) dX6_hadNot_5 ⟨Nat.le_refl _, Nat.le_refl _⟩ hP hD hS (fun H locs hP hD hS => ?_)
    refine lv_if_eq (tgt := 18) hx hb dX6_hadNot_8 (by decide) (fun c7 => ?_) (fun c7 => ?_)
    · have hF := ite_t hF c7
      exact b18 _  hF H locs ls hP hD hS (lv_sub hl [0] rfl)
    · have hF := ite_f hF c7
      refine lv_iload_n hx hb dX6_hadNot_11 rfl (lv_at hl 2 rfl) ?_
      obtain ⟨r9, u8, e10, hF⟩ := bdI_some hF
      refine MM.callSi (m_X6_isYear e10) k_X6_123 S ecOK hEs hK ⟨by decide, by decide⟩ rfl rfl hl.1 (Nat.le_of_ble_eq_true rfl) dX6_hadNot_12 ⟨Nat.le_refl _, Nat.le_refl _⟩ hP hD hS (fun H locs hP hD hS => ?_)
      refine lv_if_ne (tgt := 26) hx hb dX6_hadNot_15 (by decide) (fun c11 => ?_) (fun c11 => ?_)
      · have hF := ite_f hF c11
        refine lv_aload_n hx hb dX6_hadNot_26 rfl (lv_at hl 0 rfl) ?_
        refine va_get_w S hK hP _ c_SP rfl igX6 2 (by decide) q261 rfl rfl dX6_hadNot_27 ?_
        refine lv_iload_n hx hb dX6_hadNot_30 rfl (lv_at hl 1 rfl) ?_
        refine lv_iload_n hx hb dX6_hadNot_31 rfl (lv_at hl 2 rfl) ?_
        obtain ⟨r13, u12, e14, hF⟩ := bdL_some hF
        refine MM.callVl (m_X2_surelyHadNot e14) k_X6_199 S ecOK hEs hK ⟨by decide, by decide⟩ (va_recv hK hP rfl c_RI) rfl rfl hl.1 (Nat.le_of_ble_eq_true rfl) dX6_hadNot_32 ⟨Nat.le_refl _, Nat.le_refl _⟩ hP hD hS (fun H locs hP hD hS => ?_)
        obtain ⟨rfl, rfl⟩ := sp_eq hF
        exact retL S hr hlocks hP hD hS dX6_hadNot_35
      · have hF := ite_t hF c11
        exact b18 _  hF H locs ls hP hD hS (lv_sub hl [0] rfl)
  have hl := lv_entry ([.ref (a 0), .int x1, .int x2]) (n := 3) (Nat.le_of_ble_eq_true rfl)
  rw [lg_entry_eq]
  generalize (lg_sl ([.ref (a 0), .int x1, .int x2]) ++ List.replicate (3 - (lg_sl ([.ref (a 0), .int x1, .int x2])).length) Slot.unset).toArray = ls at hl ⊢
  exact b_main _ _ _ hP hD hS hl

set_option maxRecDepth 100000 in
set_option maxHeartbeats 4000000 in
theorem m_X0_canBeCast  {x0 : Nat} {x1 : Nat} {u u' : Mem} {r : Int32} (hx0 : 28 ≤ x0 ∧ x0 ≤ 63) (hx1 : 28 ≤ x1 ∧ x1 ≤ 63) (hF : F_X0_canBeCast  u x0 x1 = some (r, u')) : MC l D cc a tU adK adV yX0_canBeCast cX0_canBeCast 2 (some .boolean) 0 0 [.ref (a x0), .ref (a x1)] u (some (.int r)) u' := by
  refine MM.ofW (by decide) (fun p e s m below meth c S hr hlocks hK hEs hP hD hS => ?_)
  have S : CallFix p m c cX0_canBeCast 2 s _ gtbl RX0 := S
  obtain ⟨hx, hb, hml, hown, hts⟩ := id S
  have b62 : ∀  (u : Mem) (y0 : Int32) , F_X0_canBeCast_62  u y0 = some (r, u') → BW p l e s m below meth c 0 0 [.ref (a x0), .ref (a x1)] D (AC a) (some (.int r)) (wlC cc a u') 2 (wlC cc a u) 62 [] [.int y0] := by
    intro  u y0 hF H locs ls hP hD hS hl
    unfold F_X0_canBeCast_62 at hF
    obtain ⟨hz1, hF⟩ := gz_some hF
    obtain ⟨rfl, rfl⟩ := sp_eq hF
    exact retZ S hr hlocks hP hD hS hz1 dX0_canBeCast_62
  have b61 : ∀  (u : Mem)  , F_X0_canBeCast_61  u  = some (r, u') → BW p l e s m below meth c 0 0 [.ref (a x0), .ref (a x1)] D (AC a) (some (.int r)) (wlC cc a u') 2 (wlC cc a u) 61 [] [] := by
    intro  u  hF H locs ls hP hD hS hl
    unfold F_X0_canBeCast_61 at hF
    refine lv_iconst (v := 0) hx hb dX0_canBeCast_61 (by decide) ?_
    exact b62 _ _  hF H locs ls hP hD hS (lv_sub hl [] rfl)
  unfold F_X0_canBeCast at hF
  have b_main : BW p l e s m below meth c 0 0 [.ref (a x0), .ref (a x1)] D (AC a) (some (.int r)) (wlC cc a u') 2 (wlC cc a u) 0 [(0, .ref (a x0)), (1, .ref (a x1))] [] := by
    intro H locs ls hP hD hS hl
    refine lv_aload_n hx hb dX0_canBeCast_0 rfl (lv_at hl 1 rfl) ?_
    refine va_get_w S hK hP _ (c_PR hx1) rfl igX1 2 (by decide) q112 rfl rfl dX0_canBeCast_1 ?_
    refine lv_aload_n hx hb dX0_canBeCast_4 rfl (lv_at hl 0 rfl) ?_
    refine va_get_w S hK hP _ (c_PR hx0) rfl igX1 2 (by decide) q112 rfl rfl dX0_canBeCast_5 ?_
    refine lv_icmp_gt (tgt := 61) hx hb dX0_canBeCast_8 (by decide) (fun c2 => ?_) (fun c2 => ?_)
    · have hF := ite_t hF c2
      exact b61 _  hF H locs ls hP hD hS (lv_sub hl [] rfl)
    · have hF := ite_f hF c2
      refine lv_aload_n hx hb dX0_canBeCast_11 rfl (lv_at hl 1 rfl) ?_
      refine va_get_w S hK hP _ (c_PR hx1) rfl igX1 4 (by decide) q122 rfl rfl dX0_canBeCast_12 ?_
      refine lv_aload_n hx hb dX0_canBeCast_15 rfl (lv_at hl 0 rfl) ?_
      refine va_get_w S hK hP _ (c_PR hx0) rfl igX1 4 (by decide) q122 rfl rfl dX0_canBeCast_16 ?_
      refine W.lcmp hx hb dX0_canBeCast_19 ?_
      refine lv_if_ne (tgt := 61) hx hb dX0_canBeCast_20 (by decide) (fun c3 => ?_) (fun c3 => ?_)
      · have hF := ite_f hF c3
        exact b61 _  hF H locs ls hP hD hS (lv_sub hl [] rfl)
      · have hF := ite_t hF c3
        refine lv_aload_n hx hb dX0_canBeCast_23 rfl (lv_at hl 1 rfl) ?_
        refine va_get_w S hK hP _ (c_PR hx1) rfl igX1 1 (by decide) q108 rfl rfl dX0_canBeCast_24 ?_
        refine lv_bipush (v := 96) hx hb dX0_canBeCast_27 (by decide) ?_
        refine lv_imul hx hb dX0_canBeCast_29 ?_
        refine lv_aload_n hx hb dX0_canBeCast_30 rfl (lv_at hl 0 rfl) ?_
        refine va_get_w S hK hP _ (c_PR hx0) rfl igX1 1 (by decide) q108 rfl rfl dX0_canBeCast_31 ?_
        refine lv_bipush (v := 100) hx hb dX0_canBeCast_34 (by decide) ?_
        refine lv_imul hx hb dX0_canBeCast_36 ?_
        refine lv_icmp_gt (tgt := 61) hx hb dX0_canBeCast_37 (by decide) (fun c4 => ?_) (fun c4 => ?_)
        · have hF := ite_t hF c4
          exact b61 _  hF H locs ls hP hD hS (lv_sub hl [] rfl)
        · have hF := ite_f hF c4
          refine lv_aload_n hx hb dX0_canBeCast_40 rfl (lv_at hl 1 rfl) ?_
          refine va_get_w S hK hP _ (c_PR hx1) rfl igX1 1 (by decide) q108 rfl rfl dX0_canBeCast_41 ?_
          refine lv_bipush (v := 98) hx hb dX0_canBeCast_44 (by decide) ?_
          refine lv_imul hx hb dX0_canBeCast_46 ?_
          refine lv_aload_n hx hb dX0_canBeCast_47 rfl (lv_at hl 0 rfl) ?_
          refine va_get_w S hK hP _ (c_PR hx0) rfl igX1 1 (by decide) q108 rfl rfl dX0_canBeCast_48 ?_
          refine lv_bipush (v := 100) hx hb dX0_canBeCast_51 (by decide) ?_
          refine lv_imul hx hb dX0_canBeCast_53 ?_
          refine lv_icmp_lt (tgt := 61) hx hb dX0_canBeCast_54 (by decide) (fun c5 => ?_) (fun c5 => ?_)
          · have hF := ite_t hF c5
            exact b61 _  hF H locs ls hP hD hS (lv_sub hl [] rfl)
          · have hF := ite_f hF c5
            refine lv_iconst (v := 1) hx hb dX0_canBeCast_57 (by decide) ?_
            refine lv_goto (tgt := 62) hx hb dX0_canBeCast_58 (by decide) ?_
            exact b62 _ _  hF H locs ls hP hD hS (lv_sub hl [] rfl)
  have hl := lv_entry ([.ref (a x0), .ref (a x1)]) (n := 2) (Nat.le_of_ble_eq_true rfl)
  rw [lg_entry_eq]
  generalize (lg_sl ([.ref (a x0), .ref (a x1)]) ++ List.replicate (2 - (lg_sl ([.ref (a x0), .ref (a x1)])).length) Slot.unset).toArray = ls at hl ⊢
  exact b_main _ _ _ hP hD hS hl

set_option maxRecDepth 100000 in
set_option maxHeartbeats 4000000 in
theorem m_X0_sourceOf {x0 : Nat} {x1 : Int32} {u u' : Mem} {r : Int32} (hx0 : 1 ≤ x0 ∧ x0 ≤ 3) (hF : F_X0_sourceOf x0 u x1 = some (r, u')) : MC l D cc a tU adK adV yX0_sourceOf cX0_sourceOf 3 (some .int) 2 43 [.ref (a (x0 + 3)), .int x1] u (some (.int r)) u' := by
  refine MM.ofW (by decide) (fun p e s m below meth c S hr hlocks hK hEs hP hD hS => ?_)
  have S : CallFix p m c cX0_sourceOf 3 s _ gtbl RX0 := S
  obtain ⟨hx, hb, hml, hown, hts⟩ := id S
  have b24 : ∀  (u : Mem)  , F_X0_sourceOf_24  u  = some (r, u') → BW p l e s m below meth c 2 43 [.ref (a (x0 + 3)), .int x1] D (AC a) (some (.int r)) (wlC cc a u') 3 (wlC cc a u) 24 [] [] := by
    intro  u  hF H locs ls hP hD hS hl
    unfold F_X0_sourceOf_24 at hF
    refine lv_iconst (v := -1) hx hb dX0_sourceOf_24 (by decide) ?_
    obtain ⟨rfl, rfl⟩ := sp_eq hF
    exact retI S hr hlocks hP hD hS dX0_sourceOf_25
  have b61 : ∀ (k28 : Mem → Nat → Int32 → Int32 → Option (Int32 × Mem)) (hk28 : ∀ (u : Mem) (v0 : Nat) (v1 : Int32) (v2 : Int32) (hv0 : 1 ≤ v0 ∧ v0 ≤ 3), k28 u v0 v1 v2 = some (r, u') → BW p l e s m below meth c 2 43 [.ref (a (x0 + 3)), .int x1] D (AC a) (some (.int r)) (wlC cc a u') 3 (wlC cc a u) 28 [(0, .ref (a (v0 + 3))), (1, .int v1), (2, .int v2)] []) (u : Mem) (v0 : Nat) (v1 : Int32) (v2 : Int32) (hv0 : 1 ≤ v0 ∧ v0 ≤ 3), F_X0_sourceOf_61 k28 u v0 v1 v2 = some (r, u') → BW p l e s m below meth c 2 43 [.ref (a (x0 + 3)), .int x1] D (AC a) (some (.int r)) (wlC cc a u') 3 (wlC cc a u) 61 [(0, .ref (a (v0 + 3))), (1, .int v1), (2, .int v2)] [] := by
    intro k28 hk28 u v0 v1 v2 hv0 hF H locs ls hP hD hS hl
    unfold F_X0_sourceOf_61 at hF
    refine lv_inc1 (k := 2) (lv' := [(2, .int _), (0, .ref _), (1, .int _)]) hx hb dX0_sourceOf_61 hl rfl (by decide) rfl (fun ls hl => ?_)
    refine lv_goto (tgt := 28) hx hb dX0_sourceOf_64 (by decide) ?_
    exact hk28 _ _ _ _ hv0 hF H locs ls hP hD hS (lv_sub hl [1, 2, 0] rfl)
  have b28 : ∀ (n : Nat) (u : Mem) (v0 : Nat) (v1 : Int32) (v2 : Int32) (hv0 : 1 ≤ v0 ∧ v0 ≤ 3), F_X0_sourceOf_28  n u v0 v1 v2 = some (r, u') → BW p l e s m below meth c 2 43 [.ref (a (x0 + 3)), .int x1] D (AC a) (some (.int r)) (wlC cc a u') 3 (wlC cc a u) 28 [(0, .ref (a (v0 + 3))), (1, .int v1), (2, .int v2)] [] := by
    intro n
    induction n with
    | zero => intro u v0 v1 v2 hv0 hF; cases hF
    | succ n ih =>
      intro u v0 v1 v2 hv0 hF H locs ls hP hD hS hl
      unfold F_X0_sourceOf_28 at hF
      refine lv_iload_n hx hb dX0_sourceOf_28 rfl (lv_at hl 2 rfl) ?_
      refine lv_aload_n hx hb dX0_sourceOf_29 rfl (lv_at hl 0 rfl) ?_
      refine va_get_w S hK hP _ (c_AR hv0) rfl igX0 1 (by decide) q138 rfl rfl dX0_sourceOf_30 ?_
      refine lv_icmp_ge (tgt := 67) hx hb dX0_sourceOf_33 (by decide) (fun c1 => ?_) (fun c1 => ?_)
      · have hF := ite_t hF c1
        refine lv_iconst (v := -1) hx hb dX0_sourceOf_67 (by decide) ?_
        obtain ⟨rfl, rfl⟩ := sp_eq hF
        exact retI S hr hlocks hP hD hS dX0_sourceOf_68
      · have hF := ite_f hF c1
        refine lv_iload_n hx hb dX0_sourceOf_36 rfl (lv_at hl 2 rfl) ?_
        refine lv_iload_n hx hb dX0_sourceOf_37 rfl (lv_at hl 1 rfl) ?_
        refine lv_icmp_eq (tgt := 61) hx hb dX0_sourceOf_38 (by decide) (fun c2 => ?_) (fun c2 => ?_)
        · have hF := ite_t hF c2
          exact b61 _ ih _ _ _ _ hv0 hF H locs ls hP hD hS (lv_sub hl [0, 1, 2] rfl)
        · have hF := ite_f hF c2
          refine lv_aload_n hx hb dX0_sourceOf_41 rfl (lv_at hl 0 rfl) ?_
          refine va_get_w S hK hP _ (c_AR hv0) rfl igX0 0 (by decide) q134 rfl rfl dX0_sourceOf_42 ?_
          refine lv_iload_n hx hb dX0_sourceOf_45 rfl (lv_at hl 1 rfl) ?_
          obtain ⟨hin3, hF⟩ := gd_some hF
          have hp4 := r_PR (t := v0) hv0 hin3
          refine cPald S hK hP hv0 hin3 dX0_sourceOf_46 ?_
          refine lv_aload_n hx hb dX0_sourceOf_47 rfl (lv_at hl 0 rfl) ?_
          refine va_get_w S hK hP _ (c_AR hv0) rfl igX0 0 (by decide) q134 rfl rfl dX0_sourceOf_48 ?_
          refine lv_iload_n hx hb dX0_sourceOf_51 rfl (lv_at hl 2 rfl) ?_
          obtain ⟨hin5, hF⟩ := gd_some hF
          have hp6 := r_PR (t := v0) hv0 hin5
          refine cPald S hK hP hv0 hin5 dX0_sourceOf_52 ?_
          obtain ⟨r8, u7, e9, hF⟩ := bdI_some hF
          refine MM.callSi (m_X0_canBeCast hp4 hp6 e9) k_X0_81 S ecOK hEs hK ⟨by decide, by decide⟩ rfl rfl hl.1 (Nat.le_of_ble_eq_true rfl) dX0_sourceOf_53 ⟨Nat.le_refl _, Nat.le_refl _⟩ hP hD hS (fun H locs hP hD hS => ?_)
          refine lv_if_eq (tgt := 61) hx hb dX0_sourceOf_56 (by decide) (fun c10 => ?_) (fun c10 => ?_)
          · have hF := ite_t hF c10
            exact b61 _ ih _ _ _ _ hv0 hF H locs ls hP hD hS (lv_sub hl [0, 1, 2] rfl)
          · have hF := ite_f hF c10
            refine lv_iload_n hx hb dX0_sourceOf_59 rfl (lv_at hl 2 rfl) ?_
            obtain ⟨rfl, rfl⟩ := sp_eq hF
            exact retI S hr hlocks hP hD hS dX0_sourceOf_60
  unfold F_X0_sourceOf at hF
  have b_main : BW p l e s m below meth c 2 43 [.ref (a (x0 + 3)), .int x1] D (AC a) (some (.int r)) (wlC cc a u') 3 (wlC cc a u) 0 [(0, .ref (a (x0 + 3))), (1, .int x1)] [] := by
    intro H locs ls hP hD hS hl
    refine lv_aload_n hx hb dX0_sourceOf_0 rfl (lv_at hl 0 rfl) ?_
    refine lv_iload_n hx hb dX0_sourceOf_1 rfl (lv_at hl 1 rfl) ?_
    obtain ⟨r12, u11, e13, hF⟩ := bdI_some hF
    refine MM.callVi (m_X0_has hx0 e13) k_X0_74 S ecOK hEs hK ⟨by decide, by decide⟩ (va_recv hK hP rfl (c_AR hx0)) rfl rfl hl.1 (Nat.le_of_ble_eq_true rfl) dX0_sourceOf_2 ⟨Nat.le_refl _, Nat.le_refl _⟩ hP hD hS (fun H locs hP hD hS => ?_)
    refine lv_if_eq (tgt := 24) hx hb dX0_sourceOf_5 (by decide) (fun c14 => ?_) (fun c14 => ?_)
    · have hF := ite_t hF c14
      exact b24 _  hF H locs ls hP hD hS (lv_sub hl [] rfl)
    · have hF := ite_f hF c14
      refine lv_aload_n hx hb dX0_sourceOf_8 rfl (lv_at hl 0 rfl) ?_
      refine va_get_w S hK hP _ (c_AR hx0) rfl igX0 0 (by decide) q134 rfl rfl dX0_sourceOf_9 ?_
      refine lv_iload_n hx hb dX0_sourceOf_12 rfl (lv_at hl 1 rfl) ?_
      obtain ⟨hin15, hF⟩ := gd_some hF
      have hp16 := r_PR (t := x0) hx0 hin15
      refine cPald S hK hP hx0 hin15 dX0_sourceOf_13 ?_
      refine va_get_w S hK hP _ (c_PR hp16) rfl igX1 0 (by decide) q103 rfl rfl dX0_sourceOf_14 ?_
      refine lv_iconst (v := 2) hx hb dX0_sourceOf_17 (by decide) ?_
      obtain ⟨r18, u17, e19, hF⟩ := bdI_some hF
      refine MM.callSNi (m_X6_isUnder e19) k_X0_78 hEs.2.2.2.2.2.2 S ecOK hEs hK ⟨by decide, by decide⟩ rfl rfl hl.1 (Nat.le_of_ble_eq_true rfl) dX0_sourceOf_18 ⟨Nat.le_refl _, Nat.le_refl _⟩ hP hD hS (fun H locs hP hD hS => ?_)
      refine lv_if_ne (tgt := 26) hx hb dX0_sourceOf_21 (by decide) (fun c20 => ?_) (fun c20 => ?_)
      · have hF := ite_f hF c20
        refine lv_iconst (v := 0) hx hb dX0_sourceOf_26 (by decide) ?_
        refine lv_istore_n (lv' := [(2, .int _), (0, .ref _), (1, .int _)]) hx hb dX0_sourceOf_27 rfl hl (by decide) rfl (fun ls hl => ?_)
        exact b28 _ _ _ _ _ hx0 hF H locs ls hP hD hS (lv_sub hl [1, 2, 0] rfl)
      · have hF := ite_t hF c20
        exact b24 _  hF H locs ls hP hD hS (lv_sub hl [] rfl)
  have hl := lv_entry ([.ref (a (x0 + 3)), .int x1]) (n := 3) (Nat.le_of_ble_eq_true rfl)
  rw [lg_entry_eq]
  generalize (lg_sl ([.ref (a (x0 + 3)), .int x1]) ++ List.replicate (3 - (lg_sl ([.ref (a (x0 + 3)), .int x1])).length) Slot.unset).toArray = ls at hl ⊢
  exact b_main _ _ _ hP hD hS hl

set_option maxRecDepth 100000 in
set_option maxHeartbeats 4000000 in
theorem m_X6_castOf  {x1 : Int32} {u u' : Mem} {r : Int32}  (hF : F_X6_castOf  u x1 = some (r, u')) : MC l D cc a tU adK adV yX6_castOf cX6_castOf 2 (some .int) 3 65 [.ref (a 0), .int x1] u (some (.int r)) u' := by
  refine MM.ofW (by decide) (fun p e s m below meth c S hr hlocks hK hEs hP hD hS => ?_)
  have S : CallFix p m c cX6_castOf 2 s _ gtbl RX6 := S
  obtain ⟨hx, hb, hml, hown, hts⟩ := id S
  unfold F_X6_castOf at hF
  have b_main : BW p l e s m below meth c 3 65 [.ref (a 0), .int x1] D (AC a) (some (.int r)) (wlC cc a u') 2 (wlC cc a u) 0 [(0, .ref (a 0)), (1, .int x1)] [] := by
    intro H locs ls hP hD hS hl
    refine lv_aload_n hx hb dX6_castOf_0 rfl (lv_at hl 0 rfl) ?_
    refine va_get_w S hK hP _ c_SP rfl igX6 0 (by decide) q259 rfl rfl dX6_castOf_1 ?_
    refine lv_iload_n hx hb dX6_castOf_4 rfl (lv_at hl 1 rfl) ?_
    obtain ⟨r2, u1, e3, hF⟩ := bdI_some hF
    refine MM.callVi (m_X0_has ⟨by decide, by decide⟩ e3) k_X6_77 S ecOK hEs hK ⟨by decide, by decide⟩ (va_recv hK hP rfl (c_AR ⟨by decide, by decide⟩)) rfl rfl hl.1 (Nat.le_of_ble_eq_true rfl) dX6_castOf_5 ⟨Nat.le_refl _, Nat.le_refl _⟩ hP hD hS (fun H locs hP hD hS => ?_)
    refine lv_if_ne (tgt := 18) hx hb dX6_castOf_8 (by decide) (fun c4 => ?_) (fun c4 => ?_)
    · have hF := ite_f hF c4
      refine lv_aload_n hx hb dX6_castOf_18 rfl (lv_at hl 0 rfl) ?_
      refine va_get_w S hK hP _ c_SP rfl igX6 0 (by decide) q259 rfl rfl dX6_castOf_19 ?_
      refine va_get_w S hK hP _ (c_AR ⟨by decide, by decide⟩) rfl igX0 0 (by decide) q135 rfl rfl dX6_castOf_22 ?_
      refine lv_iload_n hx hb dX6_castOf_25 rfl (lv_at hl 1 rfl) ?_
      obtain ⟨hin5, hF⟩ := gd_some hF
      have hp6 := r_PR (t := 1) ⟨by decide, by decide⟩ hin5
      refine cPald S hK hP ⟨by decide, by decide⟩ hin5 dX6_castOf_26 ?_
      refine va_get_w S hK hP _ (c_PR hp6) rfl igX1 0 (by decide) q102 rfl rfl dX6_castOf_27 ?_
      refine lv_iconst (v := 2) hx hb dX6_castOf_30 (by decide) ?_
      obtain ⟨r8, u7, e9, hF⟩ := bdI_some hF
      refine MM.callSi (m_X6_isUnder e9) k_X6_131 S ecOK hEs hK ⟨by decide, by decide⟩ rfl rfl hl.1 (Nat.le_of_ble_eq_true rfl) dX6_castOf_31 ⟨Nat.le_refl _, Nat.le_refl _⟩ hP hD hS (fun H locs hP hD hS => ?_)
      refine lv_if_ne (tgt := 44) hx hb dX6_castOf_34 (by decide) (fun c10 => ?_) (fun c10 => ?_)
      · have hF := ite_f hF c10
        refine lv_aload_n hx hb dX6_castOf_44 rfl (lv_at hl 0 rfl) ?_
        refine lv_ldc hx hb hown (hts _ q436) dX6_castOf_45 ?_
        refine lv_aload_n hx hb dX6_castOf_47 rfl (lv_at hl 0 rfl) ?_
        refine va_get_w S hK hP _ c_SP rfl igX6 0 (by decide) q259 rfl rfl dX6_castOf_48 ?_
        refine lv_iload_n hx hb dX6_castOf_51 rfl (lv_at hl 1 rfl) ?_
        obtain ⟨r12, u11, e13, hF⟩ := bdI_some hF
        refine MM.callVi (m_X0_sourceOf ⟨by decide, by decide⟩ e13) k_X6_202 S ecOK hEs hK ⟨by decide, by decide⟩ (va_recv hK hP rfl (c_AR ⟨by decide, by decide⟩)) rfl rfl hl.1 (Nat.le_of_ble_eq_true rfl) dX6_castOf_52 ⟨Nat.le_refl _, Nat.le_refl _⟩ hP hD hS (fun H locs hP hD hS => ?_)
        obtain ⟨r15, u14, e16, hF⟩ := bdI_some hF
        refine MM.callVi (m_X6_printOr e16) k_X6_189 S ecOK hEs hK ⟨by decide, by decide⟩ (va_recv hK hP rfl c_SP) rfl rfl hl.1 (Nat.le_of_ble_eq_true rfl) dX6_castOf_55 ⟨Nat.le_refl _, Nat.le_refl _⟩ hP hD hS (fun H locs hP hD hS => ?_)
        obtain ⟨rfl, rfl⟩ := sp_eq hF
        exact retI S hr hlocks hP hD hS dX6_castOf_58
      · have hF := ite_t hF c10
        refine lv_aload_n hx hb dX6_castOf_37 rfl (lv_at hl 0 rfl) ?_
        refine lv_ldc hx hb hown (hts _ q442) dX6_castOf_38 ?_
        obtain ⟨r18, u17, e19, hF⟩ := bdI_some hF
        refine MM.callVi (m_X6_found e19) k_X6_64 S ecOK hEs hK ⟨by decide, by decide⟩ (va_recv hK hP rfl c_SP) rfl rfl hl.1 (Nat.le_of_ble_eq_true rfl) dX6_castOf_40 ⟨Nat.le_refl _, Nat.le_refl _⟩ hP hD hS (fun H locs hP hD hS => ?_)
        obtain ⟨rfl, rfl⟩ := sp_eq hF
        exact retI S hr hlocks hP hD hS dX6_castOf_43
    · have hF := ite_t hF c4
      refine lv_aload_n hx hb dX6_castOf_11 rfl (lv_at hl 0 rfl) ?_
      refine lv_ldc hx hb hown (hts _ q291) dX6_castOf_12 ?_
      obtain ⟨r21, u20, e22, hF⟩ := bdI_some hF
      refine MM.callVi (m_X6_found e22) k_X6_64 S ecOK hEs hK ⟨by decide, by decide⟩ (va_recv hK hP rfl c_SP) rfl rfl hl.1 (Nat.le_of_ble_eq_true rfl) dX6_castOf_14 ⟨Nat.le_refl _, Nat.le_refl _⟩ hP hD hS (fun H locs hP hD hS => ?_)
      obtain ⟨rfl, rfl⟩ := sp_eq hF
      exact retI S hr hlocks hP hD hS dX6_castOf_17
  have hl := lv_entry ([.ref (a 0), .int x1]) (n := 2) (Nat.le_of_ble_eq_true rfl)
  rw [lg_entry_eq]
  generalize (lg_sl ([.ref (a 0), .int x1]) ++ List.replicate (2 - (lg_sl ([.ref (a 0), .int x1])).length) Slot.unset).toArray = ls at hl ⊢
  exact b_main _ _ _ hP hD hS hl

set_option maxRecDepth 100000 in
set_option maxHeartbeats 4000000 in
theorem m_X6_deep  {x1 : Int32} {u u' : Mem} {r : Int32}  (hF : F_X6_deep  u x1 = some (r, u')) : MC l D cc a tU adK adV yX6_deep cX6_deep 4 (some .int) 3 65 [.ref (a 0), .int x1] u (some (.int r)) u' := by
  refine MM.ofW (by decide) (fun p e s m below meth c S hr hlocks hK hEs hP hD hS => ?_)
  have S : CallFix p m c cX6_deep 4 s _ gtbl RX6 := S
  obtain ⟨hx, hb, hml, hown, hts⟩ := id S
  have b55 : ∀  (u : Mem) (v2 : Int32) , F_X6_deep_55  u v2 = some (r, u') → BW p l e s m below meth c 3 65 [.ref (a 0), .int x1] D (AC a) (some (.int r)) (wlC cc a u') 4 (wlC cc a u) 55 [(2, .int v2)] [] := by
    intro  u v2 hF H locs ls hP hD hS hl
    unfold F_X6_deep_55 at hF
    refine lv_iload_n hx hb dX6_deep_55 rfl (lv_at hl 0 rfl) ?_
    obtain ⟨rfl, rfl⟩ := sp_eq hF
    exact retI S hr hlocks hP hD hS dX6_deep_56
  have b29 : ∀ (n : Nat) (u : Mem) (v2 : Int32) (v3 : Int32) , F_X6_deep_29  n u v2 v3 = some (r, u') → BW p l e s m below meth c 3 65 [.ref (a 0), .int x1] D (AC a) (some (.int r)) (wlC cc a u') 4 (wlC cc a u) 29 [(0, .ref (a 0)), (2, .int v2), (3, .int v3)] [] := by
    intro n
    induction n with
    | zero => intro u v2 v3 hF; cases hF
    | succ n ih =>
      intro u v2 v3 hF H locs ls hP hD hS hl
      unfold F_X6_deep_29 at hF
      refine lv_iload_n hx hb dX6_deep_29 rfl (lv_at hl 2 rfl) ?_
      refine lv_iconst (v := -1) hx hb dX6_deep_30 (by decide) ?_
      refine lv_icmp_eq (tgt := 55) hx hb dX6_deep_31 (by decide) (fun c1 => ?_) (fun c1 => ?_)
      · have hF := ite_t hF c1
        exact b55 _ _  hF H locs ls hP hD hS (lv_sub hl [1] rfl)
      · have hF := ite_f hF c1
        refine lv_iload_n hx hb dX6_deep_34 rfl (lv_at hl 1 rfl) ?_
        refine lv_bipush (v := 12) hx hb dX6_deep_35 (by decide) ?_
        refine lv_icmp_ge (tgt := 55) hx hb dX6_deep_37 (by decide) (fun c2 => ?_) (fun c2 => ?_)
        · have hF := ite_t hF c2
          exact b55 _ _  hF H locs ls hP hD hS (lv_sub hl [1] rfl)
        · have hF := ite_f hF c2
          refine lv_inc1 (k := 1) (lv' := [(2, .int _), (0, .ref _), (3, .int _)]) hx hb dX6_deep_40 hl rfl (by decide) rfl (fun ls hl => ?_)
          refine lv_aload_n hx hb dX6_deep_43 rfl (lv_at hl 1 rfl) ?_
          refine va_get_w S hK hP _ c_SP rfl igX6 0 (by decide) q259 rfl rfl dX6_deep_44 ?_
          refine lv_iload_n hx hb dX6_deep_47 rfl (lv_at hl 2 rfl) ?_
          obtain ⟨r4, u3, e5, hF⟩ := bdI_some hF
          refine MM.callVi (m_X0_sourceOf ⟨by decide, by decide⟩ e5) k_X6_202 S ecOK hEs hK ⟨by decide, by decide⟩ (va_recv hK hP rfl (c_AR ⟨by decide, by decide⟩)) rfl rfl hl.1 (Nat.le_of_ble_eq_true rfl) dX6_deep_48 ⟨Nat.le_refl _, Nat.le_refl _⟩ hP hD hS (fun H locs hP hD hS => ?_)
          refine lv_istore_n (lv' := [(3, .int _), (2, .int _), (0, .ref _)]) hx hb dX6_deep_51 rfl hl (by decide) rfl (fun ls hl => ?_)
          refine lv_goto (tgt := 29) hx hb dX6_deep_52 (by decide) ?_
          exact ih _ _ _  hF H locs ls hP hD hS (lv_sub hl [2, 1, 0] rfl)
  unfold F_X6_deep at hF
  have b_main : BW p l e s m below meth c 3 65 [.ref (a 0), .int x1] D (AC a) (some (.int r)) (wlC cc a u') 4 (wlC cc a u) 0 [(0, .ref (a 0)), (1, .int x1)] [] := by
    intro H locs ls hP hD hS hl
    refine lv_aload_n hx hb dX6_deep_0 rfl (lv_at hl 0 rfl) ?_
    refine va_get_w S hK hP _ c_SP rfl igX6 0 (by decide) q259 rfl rfl dX6_deep_1 ?_
    refine lv_iload_n hx hb dX6_deep_4 rfl (lv_at hl 1 rfl) ?_
    obtain ⟨r7, u6, e8, hF⟩ := bdI_some hF
    refine MM.callVi (m_X0_has ⟨by decide, by decide⟩ e8) k_X6_77 S ecOK hEs hK ⟨by decide, by decide⟩ (va_recv hK hP rfl (c_AR ⟨by decide, by decide⟩)) rfl rfl hl.1 (Nat.le_of_ble_eq_true rfl) dX6_deep_5 ⟨Nat.le_refl _, Nat.le_refl _⟩ hP hD hS (fun H locs hP hD hS => ?_)
    refine lv_if_ne (tgt := 18) hx hb dX6_deep_8 (by decide) (fun c9 => ?_) (fun c9 => ?_)
    · have hF := ite_f hF c9
      refine lv_iconst (v := 0) hx hb dX6_deep_18 (by decide) ?_
      refine lv_istore_n (lv' := [(2, .int _), (0, .ref _), (1, .int _)]) hx hb dX6_deep_19 rfl hl (by decide) rfl (fun ls hl => ?_)
      refine lv_aload_n hx hb dX6_deep_20 rfl (lv_at hl 1 rfl) ?_
      refine va_get_w S hK hP _ c_SP rfl igX6 0 (by decide) q259 rfl rfl dX6_deep_21 ?_
      refine lv_iload_n hx hb dX6_deep_24 rfl (lv_at hl 2 rfl) ?_
      obtain ⟨r11, u10, e12, hF⟩ := bdI_some hF
      refine MM.callVi (m_X0_sourceOf ⟨by decide, by decide⟩ e12) k_X6_202 S ecOK hEs hK ⟨by decide, by decide⟩ (va_recv hK hP rfl (c_AR ⟨by decide, by decide⟩)) rfl rfl hl.1 (Nat.le_of_ble_eq_true rfl) dX6_deep_25 ⟨Nat.le_refl _, Nat.le_refl _⟩ hP hD hS (fun H locs hP hD hS => ?_)
      refine lv_istore_n (lv' := [(3, .int _), (2, .int _), (0, .ref _), (1, .int _)]) hx hb dX6_deep_28 rfl hl (by decide) rfl (fun ls hl => ?_)
      exact b29 _ _ _ _  hF H locs ls hP hD hS (lv_sub hl [2, 1, 0] rfl)
    · have hF := ite_t hF c9
      refine lv_aload_n hx hb dX6_deep_11 rfl (lv_at hl 0 rfl) ?_
      refine lv_ldc hx hb hown (hts _ q291) dX6_deep_12 ?_
      obtain ⟨r14, u13, e15, hF⟩ := bdI_some hF
      refine MM.callVi (m_X6_found e15) k_X6_64 S ecOK hEs hK ⟨by decide, by decide⟩ (va_recv hK hP rfl c_SP) rfl rfl hl.1 (Nat.le_of_ble_eq_true rfl) dX6_deep_14 ⟨Nat.le_refl _, Nat.le_refl _⟩ hP hD hS (fun H locs hP hD hS => ?_)
      obtain ⟨rfl, rfl⟩ := sp_eq hF
      exact retI S hr hlocks hP hD hS dX6_deep_17
  have hl := lv_entry ([.ref (a 0), .int x1]) (n := 4) (Nat.le_of_ble_eq_true rfl)
  rw [lg_entry_eq]
  generalize (lg_sl ([.ref (a 0), .int x1]) ++ List.replicate (4 - (lg_sl ([.ref (a 0), .int x1])).length) Slot.unset).toArray = ls at hl ⊢
  exact b_main _ _ _ hP hD hS hl

set_option maxRecDepth 100000 in
set_option maxHeartbeats 4000000 in
theorem m_X2_weighOne  {x1 : Int32} {u u' : Mem}  (hF : F_X2_weighOne  u x1 = some u') : MC l D cc a tU adK adV yX2_weighOne cX2_weighOne 3 none 4 94 [.ref (a 7), .int x1] u none u' := by
  refine MM.ofW (by decide) (fun p e s m below meth c S hr hlocks hK hEs hP hD hS => ?_)
  have S : CallFix p m c cX2_weighOne 3 s _ gtbl RX2 := S
  obtain ⟨hx, hb, hml, hown, hts⟩ := id S
  have b24 : ∀ (k2 : Mem → Int32 → Int32 → Option Mem) (hk2 : ∀ (u : Mem) (v1 : Int32) (v2 : Int32) , k2 u v1 v2 = some u' → BW p l e s m below meth c 4 94 [.ref (a 7), .int x1] D (AC a) none (wlC cc a u') 3 (wlC cc a u) 2 [(0, .ref (a 7)), (1, .int v1), (2, .int v2)] []) (u : Mem) (v1 : Int32) (v2 : Int32) , F_X2_weighOne_24 k2 u v1 v2 = some u' → BW p l e s m below meth c 4 94 [.ref (a 7), .int x1] D (AC a) none (wlC cc a u') 3 (wlC cc a u) 24 [(0, .ref (a 7)), (1, .int v1), (2, .int v2)] [] := by
    intro k2 hk2 u v1 v2 hF H locs ls hP hD hS hl
    unfold F_X2_weighOne_24 at hF
    refine lv_inc1 (k := 2) (lv' := [(2, .int _), (0, .ref _), (1, .int _)]) hx hb dX2_weighOne_24 hl rfl (by decide) rfl (fun ls hl => ?_)
    refine lv_goto (tgt := 2) hx hb dX2_weighOne_27 (by decide) ?_
    exact hk2 _ _ _  hF H locs ls hP hD hS (lv_sub hl [1, 2, 0] rfl)
  have b2 : ∀ (n : Nat) (u : Mem) (v1 : Int32) (v2 : Int32) , F_X2_weighOne_2  n u v1 v2 = some u' → BW p l e s m below meth c 4 94 [.ref (a 7), .int x1] D (AC a) none (wlC cc a u') 3 (wlC cc a u) 2 [(0, .ref (a 7)), (1, .int v1), (2, .int v2)] [] := by
    intro n
    induction n with
    | zero => intro u v1 v2 hF; cases hF
    | succ n ih =>
      intro u v1 v2 hF H locs ls hP hD hS hl
      unfold F_X2_weighOne_2 at hF
      refine lv_iload_n hx hb dX2_weighOne_2 rfl (lv_at hl 2 rfl) ?_
      refine lv_aload_n hx hb dX2_weighOne_3 rfl (lv_at hl 0 rfl) ?_
      refine va_get_w S hK hP _ c_RI rfl igX2 0 (by decide) q158 rfl rfl dX2_weighOne_4 ?_
      refine va_get_w S hK hP _ (c_AR ⟨by decide, by decide⟩) rfl igX0 1 (by decide) q139 rfl rfl dX2_weighOne_7 ?_
      refine lv_icmp_ge (tgt := 30) hx hb dX2_weighOne_10 (by decide) (fun c1 => ?_) (fun c1 => ?_)
      · have hF := ite_t hF c1
        obtain rfl := sv_eq hF
        exact retV S hr hlocks hP hD hS dX2_weighOne_30
      · have hF := ite_f hF c1
        refine lv_iload_n hx hb dX2_weighOne_13 rfl (lv_at hl 2 rfl) ?_
        refine lv_iload_n hx hb dX2_weighOne_14 rfl (lv_at hl 1 rfl) ?_
        refine lv_icmp_eq (tgt := 24) hx hb dX2_weighOne_15 (by decide) (fun c2 => ?_) (fun c2 => ?_)
        · have hF := ite_t hF c2
          exact b24 _ ih _ _ _  hF H locs ls hP hD hS (lv_sub hl [0, 1, 2] rfl)
        · have hF := ite_f hF c2
          refine lv_aload_n hx hb dX2_weighOne_18 rfl (lv_at hl 0 rfl) ?_
          refine lv_iload_n hx hb dX2_weighOne_19 rfl (lv_at hl 1 rfl) ?_
          refine lv_iload_n hx hb dX2_weighOne_20 rfl (lv_at hl 2 rfl) ?_
          obtain ⟨u3, e5, hF⟩ := bdV_some hF
          refine MM.callVv (m_X2_weighPair e5) k_X2_43 S ecOK hEs hK ⟨by decide, by decide⟩ (va_recv hK hP rfl c_RI) rfl rfl hl.1 (Nat.le_of_ble_eq_true rfl) dX2_weighOne_21 ⟨Nat.le_refl _, Nat.le_refl _⟩ hP hD hS (fun H locs hP hD hS => ?_)
          exact b24 _ ih _ _ _  hF H locs ls hP hD hS (lv_sub hl [0, 1, 2] rfl)
  unfold F_X2_weighOne at hF
  have b_main : BW p l e s m below meth c 4 94 [.ref (a 7), .int x1] D (AC a) none (wlC cc a u') 3 (wlC cc a u) 0 [(0, .ref (a 7)), (1, .int x1)] [] := by
    intro H locs ls hP hD hS hl
    refine lv_iconst (v := 0) hx hb dX2_weighOne_0 (by decide) ?_
    refine lv_istore_n (lv' := [(2, .int _), (0, .ref _), (1, .int _)]) hx hb dX2_weighOne_1 rfl hl (by decide) rfl (fun ls hl => ?_)
    exact b2 _ _ _ _  hF H locs ls hP hD hS (lv_sub hl [1, 2, 0] rfl)
  have hl := lv_entry ([.ref (a 7), .int x1]) (n := 3) (Nat.le_of_ble_eq_true rfl)
  rw [lg_entry_eq]
  generalize (lg_sl ([.ref (a 7), .int x1]) ++ List.replicate (3 - (lg_sl ([.ref (a 7), .int x1])).length) Slot.unset).toArray = ls at hl ⊢
  exact b_main _ _ _ hP hD hS hl

set_option maxRecDepth 100000 in
set_option maxHeartbeats 4000000 in
theorem m_X2_mostTelling   {u u' : Mem} {r : Int32}  (hF : F_X2_mostTelling  u  = some (r, u')) : MC l D cc a tU adK adV yX2_mostTelling cX2_mostTelling 9 (some .int) 24 566 [.ref (a 7)] u (some (.int r)) u' := by
  refine MM.ofW (by decide) (fun p e s m below meth c S hr hlocks hK hEs hP hD hS => ?_)
  have S : CallFix p m c cX2_mostTelling 9 s _ gtbl RX2 := S
  obtain ⟨hx, hb, hml, hown, hts⟩ := id S
  have b136 : ∀ (k26 : Mem → Int32 → Int32 → Int32 → Int32 → Int32 → Option (Int32 × Mem)) (hk26 : ∀ (u : Mem) (v1 : Int32) (v2 : Int32) (v3 : Int32) (v4 : Int32) (v5 : Int32) , k26 u v1 v2 v3 v4 v5 = some (r, u') → BW p l e s m below meth c 24 566 [.ref (a 7)] D (AC a) (some (.int r)) (wlC cc a u') 9 (wlC cc a u) 26 [(0, .ref (a 7)), (1, .int v1), (2, .int v2), (3, .int v3), (4, .int v4), (5, .int v5)] []) (u : Mem) (v1 : Int32) (v2 : Int32) (v3 : Int32) (v4 : Int32) (v5 : Int32) , F_X2_mostTelling_136 k26 u v1 v2 v3 v4 v5 = some (r, u') → BW p l e s m below meth c 24 566 [.ref (a 7)] D (AC a) (some (.int r)) (wlC cc a u') 9 (wlC cc a u) 136 [(0, .ref (a 7)), (1, .int v1), (2, .int v2), (3, .int v3), (4, .int v4), (5, .int v5)] [] := by
    intro k26 hk26 u v1 v2 v3 v4 v5 hF H locs ls hP hD hS hl
    unfold F_X2_mostTelling_136 at hF
    refine lv_inc1 (k := 5) (lv' := [(5, .int _), (0, .ref _), (1, .int _), (2, .int _), (3, .int _), (4, .int _)]) hx hb dX2_mostTelling_136 hl rfl (by decide) rfl (fun ls hl => ?_)
    refine lv_goto (tgt := 26) hx hb dX2_mostTelling_139 (by decide) ?_
    exact hk26 _ _ _ _ _ _  hF H locs ls hP hD hS (lv_sub hl [1, 2, 3, 4, 5, 0] rfl)
  have b108 : ∀ (k26 : Mem → Int32 → Int32 → Int32 → Int32 → Int32 → Option (Int32 × Mem)) (hk26 : ∀ (u : Mem) (v1 : Int32) (v2 : Int32) (v3 : Int32) (v4 : Int32) (v5 : Int32) , k26 u v1 v2 v3 v4 v5 = some (r, u') → BW p l e s m below meth c 24 566 [.ref (a 7)] D (AC a) (some (.int r)) (wlC cc a u') 9 (wlC cc a u) 26 [(0, .ref (a 7)), (1, .int v1), (2, .int v2), (3, .int v3), (4, .int v4), (5, .int v5)] []) (u : Mem) (v1 : Int32) (v2 : Int32) (v3 : Int32) (v4 : Int32) (v5 : Int32) (v6 : Nat) (y0 : Int32) (hv6 : 28 ≤ v6 ∧ v6 ≤ 63), F_X2_mostTelling_108 k26 u v1 v2 v3 v4 v5 v6 y0 = some (r, u') → BW p l e s m below meth c 24 566 [.ref (a 7)] D (AC a) (some (.int r)) (wlC cc a u') 9 (wlC cc a u) 108 [(0, .ref (a 7)), (1, .int v1), (2, .int v2), (3, .int v3), (4, .int v4), (5, .int v5), (6, .ref (a v6))] [.int y0] := by
    intro k26 hk26 u v1 v2 v3 v4 v5 v6 y0 hv6 hF H locs ls hP hD hS hl
    unfold F_X2_mostTelling_108 at hF
    refine lv_istore (lv' := [(8, .int _), (0, .ref _), (1, .int _), (2, .int _), (3, .int _), (4, .int _), (5, .int _), (6, .ref _)]) hx hb dX2_mostTelling_108 hl (by decide) rfl (fun ls hl => ?_)
    refine lv_aload hx hb dX2_mostTelling_110 (lv_at hl 7 rfl) ?_
    refine lv_iconst (v := 0) hx hb dX2_mostTelling_112 (by decide) ?_
    refine va_put_w S igX1 tyX1 tyX1_ok nmX1 hK hP hD hS _ (c_PR hv6) rfl 3 (by decide) q118 rfl rfl (ty := .boolean) (tyX1_ok 3 (by decide)) (nz_ok (by decide)) (fz_ok (by decide)) (Nat.le_of_ble_eq_true rfl) (z_PRi hv6 (by decide)) dX2_mostTelling_113 (fun H locs hP hD hS => ?_)
    refine lv_aload_n hx hb dX2_mostTelling_116 rfl (lv_at hl 1 rfl) ?_
    refine lv_iload hx hb dX2_mostTelling_117 (lv_at hl 6 rfl) ?_
    obtain ⟨u1, e3, hF⟩ := bdV_some hF
    refine MM.callVv (m_X2_weighOne e3) k_X2_140 S ecOK hEs hK ⟨by decide, by decide⟩ (va_recv hK hP rfl c_RI) rfl rfl hl.1 (Nat.le_of_ble_eq_true rfl) dX2_mostTelling_119 ⟨Nat.le_refl _, Nat.le_refl _⟩ hP hD hS (fun H locs hP hD hS => ?_)
    refine lv_iload hx hb dX2_mostTelling_122 (lv_at hl 0 rfl) ?_
    refine lv_iload hx hb dX2_mostTelling_124 (lv_at hl 5 rfl) ?_
    refine lv_icmp_le (tgt := 136) hx hb dX2_mostTelling_126 (by decide) (fun c4 => ?_) (fun c4 => ?_)
    · have hF := ite_t hF c4
      exact b136 _ hk26 _ _ _ _ _ _  hF H locs ls hP hD hS (lv_sub hl [1, 2, 3, 4, 5, 6] rfl)
    · have hF := ite_f hF c4
      refine lv_iload hx hb dX2_mostTelling_129 (lv_at hl 0 rfl) ?_
      refine lv_istore (lv' := [(4, .int _), (8, .int _), (0, .ref _), (1, .int _), (2, .int _), (3, .int _), (5, .int _), (6, .ref _)]) hx hb dX2_mostTelling_131 hl (by decide) rfl (fun ls hl => ?_)
      refine lv_iload hx hb dX2_mostTelling_133 (lv_at hl 6 rfl) ?_
      refine lv_istore_n (lv' := [(3, .int _), (4, .int _), (8, .int _), (0, .ref _), (1, .int _), (2, .int _), (5, .int _), (6, .ref _)]) hx hb dX2_mostTelling_135 rfl hl (by decide) rfl (fun ls hl => ?_)
      exact b136 _ hk26 _ _ _ _ _ _  hF H locs ls hP hD hS (lv_sub hl [3, 4, 5, 0, 1, 6] rfl)
  have b26 : ∀ (n : Nat) (u : Mem) (v1 : Int32) (v2 : Int32) (v3 : Int32) (v4 : Int32) (v5 : Int32) , F_X2_mostTelling_26  n u v1 v2 v3 v4 v5 = some (r, u') → BW p l e s m below meth c 24 566 [.ref (a 7)] D (AC a) (some (.int r)) (wlC cc a u') 9 (wlC cc a u) 26 [(0, .ref (a 7)), (1, .int v1), (2, .int v2), (3, .int v3), (4, .int v4), (5, .int v5)] [] := by
    intro n
    induction n with
    | zero => intro u v1 v2 v3 v4 v5 hF; cases hF
    | succ n ih =>
      intro u v1 v2 v3 v4 v5 hF H locs ls hP hD hS hl
      unfold F_X2_mostTelling_26 at hF
      refine lv_iload hx hb dX2_mostTelling_26 (lv_at hl 5 rfl) ?_
      refine lv_aload_n hx hb dX2_mostTelling_28 rfl (lv_at hl 0 rfl) ?_
      refine va_get_w S hK hP _ c_RI rfl igX2 0 (by decide) q158 rfl rfl dX2_mostTelling_29 ?_
      refine va_get_w S hK hP _ (c_AR ⟨by decide, by decide⟩) rfl igX0 1 (by decide) q139 rfl rfl dX2_mostTelling_32 ?_
      refine lv_icmp_ge (tgt := 142) hx hb dX2_mostTelling_35 (by decide) (fun c5 => ?_) (fun c5 => ?_)
      · have hF := ite_t hF c5
        refine lv_iload_n hx hb dX2_mostTelling_142 rfl (lv_at hl 3 rfl) ?_
        obtain ⟨rfl, rfl⟩ := sp_eq hF
        exact retI S hr hlocks hP hD hS dX2_mostTelling_143
      · have hF := ite_f hF c5
        refine lv_aload_n hx hb dX2_mostTelling_38 rfl (lv_at hl 0 rfl) ?_
        refine va_get_w S hK hP _ c_RI rfl igX2 0 (by decide) q158 rfl rfl dX2_mostTelling_39 ?_
        refine va_get_w S hK hP _ (c_AR ⟨by decide, by decide⟩) rfl igX0 0 (by decide) q137 rfl rfl dX2_mostTelling_42 ?_
        refine lv_iload hx hb dX2_mostTelling_45 (lv_at hl 5 rfl) ?_
        obtain ⟨hin6, hF⟩ := gd_some hF
        have hp7 := r_PR (t := 1) ⟨by decide, by decide⟩ hin6
        refine cPald S hK hP ⟨by decide, by decide⟩ hin6 dX2_mostTelling_47 ?_
        refine lv_astore (lv' := [(6, .ref _), (0, .ref _), (1, .int _), (2, .int _), (3, .int _), (4, .int _), (5, .int _)]) hx hb dX2_mostTelling_48 hl (by decide) rfl (fun ls hl => ?_)
        refine lv_aload hx hb dX2_mostTelling_50 (lv_at hl 0 rfl) ?_
        refine va_get_w S hK hP _ (c_PR hp7) rfl igX1 3 (by decide) q118 rfl rfl dX2_mostTelling_52 ?_
        refine lv_if_eq (tgt := 61) hx hb dX2_mostTelling_55 (by decide) (fun c8 => ?_) (fun c8 => ?_)
        · have hF := ite_t hF c8
          refine lv_aload_n hx hb dX2_mostTelling_61 rfl (lv_at hl 1 rfl) ?_
          refine va_get_w S hK hP _ c_RI rfl igX2 2 (by decide) q160 rfl rfl dX2_mostTelling_62 ?_
          refine lv_iload hx hb dX2_mostTelling_65 (lv_at hl 6 rfl) ?_
          obtain ⟨hin9, hF⟩ := gd_some hF
          refine cIald S hK hP ⟨rfl, by decide⟩ rfl hin9 dX2_mostTelling_67 ?_
          refine lv_istore (lv' := [(7, .int _), (6, .ref _), (0, .ref _), (1, .int _), (2, .int _), (3, .int _), (4, .int _), (5, .int _)]) hx hb dX2_mostTelling_68 hl (by decide) rfl (fun ls hl => ?_)
          refine lv_aload hx hb dX2_mostTelling_70 (lv_at hl 1 rfl) ?_
          refine lv_iconst (v := 1) hx hb dX2_mostTelling_72 (by decide) ?_
          refine va_put_w S igX1 tyX1 tyX1_ok nmX1 hK hP hD hS _ (c_PR hp7) rfl 3 (by decide) q118 rfl rfl (ty := .boolean) (tyX1_ok 3 (by decide)) (nz_ok (by decide)) (fz_ok (by decide)) (Nat.le_of_ble_eq_true rfl) (z_PRi hp7 (by decide)) dX2_mostTelling_73 (fun H locs hP hD hS => ?_)
          refine lv_aload_n hx hb dX2_mostTelling_76 rfl (lv_at hl 2 rfl) ?_
          refine lv_iload hx hb dX2_mostTelling_77 (lv_at hl 7 rfl) ?_
          obtain ⟨u10, e12, hF⟩ := bdV_some hF
          refine MM.callVv (m_X2_weighOne e12) k_X2_140 S ecOK hEs hK ⟨by decide, by decide⟩ (va_recv hK hP rfl c_RI) rfl rfl hl.1 (Nat.le_of_ble_eq_true rfl) dX2_mostTelling_79 ⟨Nat.le_refl _, Nat.le_refl _⟩ hP hD hS (fun H locs hP hD hS => ?_)
          refine lv_aload_n hx hb dX2_mostTelling_82 rfl (lv_at hl 2 rfl) ?_
          refine va_get_w S hK hP _ c_RI rfl igX2 2 (by decide) q160 rfl rfl dX2_mostTelling_83 ?_
          refine lv_iload hx hb dX2_mostTelling_86 (lv_at hl 7 rfl) ?_
          obtain ⟨hin13, hF⟩ := gd_some hF
          refine cIald S hK hP ⟨rfl, by decide⟩ rfl hin13 dX2_mostTelling_88 ?_
          refine lv_iload hx hb dX2_mostTelling_89 (lv_at hl 0 rfl) ?_
          refine lv_icmp_ne (tgt := 98) hx hb dX2_mostTelling_91 (by decide) (fun c14 => ?_) (fun c14 => ?_)
          · have hF := ite_f hF c14
            refine lv_aload_n hx hb dX2_mostTelling_98 rfl (lv_at hl 2 rfl) ?_
            refine lv_iload_n hx hb dX2_mostTelling_99 rfl (lv_at hl 3 rfl) ?_
            obtain ⟨r16, u15, e17, hF⟩ := bdI_some hF
            refine MM.callVi (m_X2_fewestRings e17) k_X2_133 S ecOK hEs hK ⟨by decide, by decide⟩ (va_recv hK hP rfl c_RI) rfl rfl hl.1 (Nat.le_of_ble_eq_true rfl) dX2_mostTelling_100 ⟨Nat.le_refl _, Nat.le_refl _⟩ hP hD hS (fun H locs hP hD hS => ?_)
            refine lv_iload_n hx hb dX2_mostTelling_103 rfl (lv_at hl 4 rfl) ?_
            refine lv_isub hx hb dX2_mostTelling_104 ?_
            refine va_mabs hx hb (hml.trans hl.1.symm) hown (hts _ q623) (hts _ q411) (hts _ q73) (hts _ q412) (by decide) (Nat.le_of_ble_eq_true rfl) (Nat.le_refl _) (Nat.le_refl _) dX2_mostTelling_105 ?_
            exact b108 _ ih _ _ _ _ _ _ _ _ hp7 hF H locs ls hP hD hS (lv_sub hl [2, 3, 4, 5, 6, 7, 1] rfl)
          · have hF := ite_t hF c14
            refine lv_iconst (v := 0) hx hb dX2_mostTelling_94 (by decide) ?_
            refine lv_goto (tgt := 108) hx hb dX2_mostTelling_95 (by decide) ?_
            exact b108 _ ih _ _ _ _ _ _ _ _ hp7 hF H locs ls hP hD hS (lv_sub hl [2, 3, 4, 5, 6, 7, 1] rfl)
        · have hF := ite_f hF c8
          refine lv_goto (tgt := 136) hx hb dX2_mostTelling_58 (by decide) ?_
          exact b136 _ ih _ _ _ _ _ _  hF H locs ls hP hD hS (lv_sub hl [1, 2, 3, 4, 5, 6] rfl)
  unfold F_X2_mostTelling at hF
  have b_main : BW p l e s m below meth c 24 566 [.ref (a 7)] D (AC a) (some (.int r)) (wlC cc a u') 9 (wlC cc a u) 0 [(0, .ref (a 7))] [] := by
    intro H locs ls hP hD hS hl
    refine lv_iconst (v := 1) hx hb dX2_mostTelling_0 (by decide) ?_
    refine lv_aload_n hx hb dX2_mostTelling_1 rfl (lv_at hl 0 rfl) ?_
    refine va_get_w S hK hP _ c_RI rfl igX2 0 (by decide) q158 rfl rfl dX2_mostTelling_2 ?_
    refine va_get_w S hK hP _ (c_AR ⟨by decide, by decide⟩) rfl igX0 1 (by decide) q139 rfl rfl dX2_mostTelling_5 ?_
    refine lv_ishl hx hb dX2_mostTelling_8 ?_
    refine lv_iconst (v := 1) hx hb dX2_mostTelling_9 (by decide) ?_
    refine lv_isub hx hb dX2_mostTelling_10 ?_
    refine lv_istore_n (lv' := [(1, .int _), (0, .ref _)]) hx hb dX2_mostTelling_11 rfl hl (by decide) rfl (fun ls hl => ?_)
    refine lv_aload_n hx hb dX2_mostTelling_12 rfl (lv_at hl 1 rfl) ?_
    refine lv_iload_n hx hb dX2_mostTelling_13 rfl (lv_at hl 0 rfl) ?_
    obtain ⟨r19, u18, e20, hF⟩ := bdI_some hF
    refine MM.callVi (m_X2_fewestRings e20) k_X2_133 S ecOK hEs hK ⟨by decide, by decide⟩ (va_recv hK hP rfl c_RI) rfl rfl hl.1 (Nat.le_of_ble_eq_true rfl) dX2_mostTelling_14 ⟨Nat.le_refl _, Nat.le_refl _⟩ hP hD hS (fun H locs hP hD hS => ?_)
    refine lv_istore_n (lv' := [(2, .int _), (1, .int _), (0, .ref _)]) hx hb dX2_mostTelling_17 rfl hl (by decide) rfl (fun ls hl => ?_)
    refine lv_iconst (v := -1) hx hb dX2_mostTelling_18 (by decide) ?_
    refine lv_istore_n (lv' := [(3, .int _), (2, .int _), (1, .int _), (0, .ref _)]) hx hb dX2_mostTelling_19 rfl hl (by decide) rfl (fun ls hl => ?_)
    refine lv_iconst (v := 0) hx hb dX2_mostTelling_20 (by decide) ?_
    refine lv_istore (lv' := [(4, .int _), (3, .int _), (2, .int _), (1, .int _), (0, .ref _)]) hx hb dX2_mostTelling_21 hl (by decide) rfl (fun ls hl => ?_)
    refine lv_iconst (v := 0) hx hb dX2_mostTelling_23 (by decide) ?_
    refine lv_istore (lv' := [(5, .int _), (4, .int _), (3, .int _), (2, .int _), (1, .int _), (0, .ref _)]) hx hb dX2_mostTelling_24 hl (by decide) rfl (fun ls hl => ?_)
    exact b26 _ _ _ _ _ _ _  hF H locs ls hP hD hS (lv_sub hl [5, 4, 3, 2, 1, 0] rfl)
  have hl := lv_entry ([.ref (a 7)]) (n := 9) (Nat.le_of_ble_eq_true rfl)
  rw [lg_entry_eq]
  generalize (lg_sl ([.ref (a 7)]) ++ List.replicate (9 - (lg_sl ([.ref (a 7)])).length) Slot.unset).toArray = ls at hl ⊢
  exact b_main _ _ _ hP hD hS hl

set_option maxRecDepth 100000 in
set_option maxHeartbeats 4000000 in
theorem m_X6_tell   {u u' : Mem} {r : Int32}  (hF : F_X6_tell  u  = some (r, u')) : MC l D cc a tU adK adV yX6_tell cX6_tell 1 (some .int) 25 594 [.ref (a 0)] u (some (.int r)) u' := by
  refine MM.ofW (by decide) (fun p e s m below meth c S hr hlocks hK hEs hP hD hS => ?_)
  have S : CallFix p m c cX6_tell 1 s _ gtbl RX6 := S
  obtain ⟨hx, hb, hml, hown, hts⟩ := id S
  unfold F_X6_tell at hF
  have b_main : BW p l e s m below meth c 25 594 [.ref (a 0)] D (AC a) (some (.int r)) (wlC cc a u') 1 (wlC cc a u) 0 [(0, .ref (a 0))] [] := by
    intro H locs ls hP hD hS hl
    refine lv_aload_n hx hb dX6_tell_0 rfl (lv_at hl 0 rfl) ?_
    refine va_get_w S hK hP _ c_SP rfl igX6 2 (by decide) q261 rfl rfl dX6_tell_1 ?_
    obtain ⟨u1, e3, hF⟩ := bdV_some hF
    refine MM.callVv (m_X2_weigh e3) k_X6_163 S ecOK hEs hK ⟨by decide, by decide⟩ (va_recv hK hP rfl c_RI) rfl rfl hl.1 (Nat.le_of_ble_eq_true rfl) dX6_tell_4 ⟨Nat.le_refl _, Nat.le_refl _⟩ hP hD hS (fun H locs hP hD hS => ?_)
    refine lv_aload_n hx hb dX6_tell_7 rfl (lv_at hl 0 rfl) ?_
    refine lv_ldc hx hb hown (hts _ q436) dX6_tell_8 ?_
    refine lv_aload_n hx hb dX6_tell_10 rfl (lv_at hl 0 rfl) ?_
    refine va_get_w S hK hP _ c_SP rfl igX6 2 (by decide) q261 rfl rfl dX6_tell_11 ?_
    obtain ⟨r5, u4, e6, hF⟩ := bdI_some hF
    refine MM.callVi (m_X2_mostTelling e6) k_X6_205 S ecOK hEs hK ⟨by decide, by decide⟩ (va_recv hK hP rfl c_RI) rfl rfl hl.1 (Nat.le_of_ble_eq_true rfl) dX6_tell_14 ⟨Nat.le_refl _, Nat.le_refl _⟩ hP hD hS (fun H locs hP hD hS => ?_)
    obtain ⟨r8, u7, e9, hF⟩ := bdI_some hF
    refine MM.callVi (m_X6_printOr e9) k_X6_189 S ecOK hEs hK ⟨by decide, by decide⟩ (va_recv hK hP rfl c_SP) rfl rfl hl.1 (Nat.le_of_ble_eq_true rfl) dX6_tell_17 ⟨Nat.le_refl _, Nat.le_refl _⟩ hP hD hS (fun H locs hP hD hS => ?_)
    obtain ⟨rfl, rfl⟩ := sp_eq hF
    exact retI S hr hlocks hP hD hS dX6_tell_20
  have hl := lv_entry ([.ref (a 0)]) (n := 1) (Nat.le_of_ble_eq_true rfl)
  rw [lg_entry_eq]
  generalize (lg_sl ([.ref (a 0)]) ++ List.replicate (1 - (lg_sl ([.ref (a 0)])).length) Slot.unset).toArray = ls at hl ⊢
  exact b_main _ _ _ hP hD hS hl

set_option maxRecDepth 100000 in
set_option maxHeartbeats 4000000 in
theorem m_X2_likeliestKind  {x1 : Int32} {u u' : Mem} {r : Int32}  (hF : F_X2_likeliestKind  u x1 = some (r, u')) : MC l D cc a tU adK adV yX2_likeliestKind cX2_likeliestKind 8 (some .int) 5 116 [.ref (a 7), .int x1] u (some (.int r)) u' := by
  refine MM.ofW (by decide) (fun p e s m below meth c S hr hlocks hK hEs hP hD hS => ?_)
  have S : CallFix p m c cX2_likeliestKind 8 s _ gtbl RX2 := S
  obtain ⟨hx, hb, hml, hown, hts⟩ := id S
  have b68 : ∀ (k24 : Mem → Int32 → Nat → Int32 → Int32 → Int32 → Int32 → Option (Int32 × Mem)) (hk24 : ∀ (u : Mem) (v1 : Int32) (v2 : Nat) (v3 : Int32) (v4 : Int32) (v5 : Int32) (v6 : Int32) (hv2 : 28 ≤ v2 ∧ v2 ≤ 63), k24 u v1 v2 v3 v4 v5 v6 = some (r, u') → BW p l e s m below meth c 5 116 [.ref (a 7), .int x1] D (AC a) (some (.int r)) (wlC cc a u') 8 (wlC cc a u) 24 [(0, .ref (a 7)), (1, .int v1), (2, .ref (a v2)), (3, .int v3), (4, .int v4), (5, .int v5), (6, .int v6)] []) (u : Mem) (v1 : Int32) (v2 : Nat) (v3 : Int32) (v4 : Int32) (v5 : Int32) (v6 : Int32) (hv2 : 28 ≤ v2 ∧ v2 ≤ 63), F_X2_likeliestKind_68 k24 u v1 v2 v3 v4 v5 v6 = some (r, u') → BW p l e s m below meth c 5 116 [.ref (a 7), .int x1] D (AC a) (some (.int r)) (wlC cc a u') 8 (wlC cc a u) 68 [(0, .ref (a 7)), (1, .int v1), (2, .ref (a v2)), (3, .int v3), (4, .int v4), (5, .int v5), (6, .int v6)] [] := by
    intro k24 hk24 u v1 v2 v3 v4 v5 v6 hv2 hF H locs ls hP hD hS hl
    unfold F_X2_likeliestKind_68 at hF
    refine lv_inc1 (k := 6) (lv' := [(6, .int _), (0, .ref _), (1, .int _), (2, .ref _), (3, .int _), (4, .int _), (5, .int _)]) hx hb dX2_likeliestKind_68 hl rfl (by decide) rfl (fun ls hl => ?_)
    refine lv_goto (tgt := 24) hx hb dX2_likeliestKind_71 (by decide) ?_
    exact hk24 _ _ _ _ _ _ _ hv2 hF H locs ls hP hD hS (lv_sub hl [1, 2, 3, 4, 5, 6, 0] rfl)
  have b24 : ∀ (n : Nat) (u : Mem) (v1 : Int32) (v2 : Nat) (v3 : Int32) (v4 : Int32) (v5 : Int32) (v6 : Int32) (hv2 : 28 ≤ v2 ∧ v2 ≤ 63), F_X2_likeliestKind_24  n u v1 v2 v3 v4 v5 v6 = some (r, u') → BW p l e s m below meth c 5 116 [.ref (a 7), .int x1] D (AC a) (some (.int r)) (wlC cc a u') 8 (wlC cc a u) 24 [(0, .ref (a 7)), (1, .int v1), (2, .ref (a v2)), (3, .int v3), (4, .int v4), (5, .int v5), (6, .int v6)] [] := by
    intro n
    induction n with
    | zero => intro u v1 v2 v3 v4 v5 v6 hv2 hF; cases hF
    | succ n ih =>
      intro u v1 v2 v3 v4 v5 v6 hv2 hF H locs ls hP hD hS hl
      unfold F_X2_likeliestKind_24 at hF
      refine lv_iload hx hb dX2_likeliestKind_24 (lv_at hl 6 rfl) ?_
      refine lv_bipush (v := 6) hx hb dX2_likeliestKind_26 (by decide) ?_
      refine lv_icmp_ge (tgt := 74) hx hb dX2_likeliestKind_28 (by decide) (fun c1 => ?_) (fun c1 => ?_)
      · have hF := ite_t hF c1
        refine lv_aload_n hx hb dX2_likeliestKind_74 rfl (lv_at hl 2 rfl) ?_
        refine lv_iload_n hx hb dX2_likeliestKind_75 rfl (lv_at hl 3 rfl) ?_
        refine va_put_w S igX1 tyX1 tyX1_ok nmX1 hK hP hD hS _ (c_PR hv2) rfl 0 (by decide) q104 rfl rfl (tyX1_ok 0 (by decide)) rfl rfl (Nat.le_of_ble_eq_true rfl) (z_PRi hv2 (by decide)) dX2_likeliestKind_76 (fun H locs hP hD hS => ?_)
        refine lv_iload hx hb dX2_likeliestKind_79 (lv_at hl 4 rfl) ?_
        obtain ⟨rfl, rfl⟩ := sp_eq hF
        exact retI S hr hlocks hP hD hS dX2_likeliestKind_81
      · have hF := ite_f hF c1
        refine lv_aload_n hx hb dX2_likeliestKind_31 rfl (lv_at hl 2 rfl) ?_
        refine lv_iload hx hb dX2_likeliestKind_32 (lv_at hl 6 rfl) ?_
        refine va_put_w S igX1 tyX1 tyX1_ok nmX1 hK hP hD hS _ (c_PR hv2) rfl 0 (by decide) q104 rfl rfl (tyX1_ok 0 (by decide)) rfl rfl (Nat.le_of_ble_eq_true rfl) (z_PRi hv2 (by decide)) dX2_likeliestKind_34 (fun H locs hP hD hS => ?_)
        refine lv_aload_n hx hb dX2_likeliestKind_37 rfl (lv_at hl 0 rfl) ?_
        refine lv_iload_n hx hb dX2_likeliestKind_38 rfl (lv_at hl 1 rfl) ?_
        obtain ⟨u2, e4, hF⟩ := bdV_some hF
        refine MM.callVv (m_X2_weighOne e4) k_X2_140 S ecOK hEs hK ⟨by decide, by decide⟩ (va_recv hK hP rfl c_RI) rfl rfl hl.1 (Nat.le_of_ble_eq_true rfl) dX2_likeliestKind_39 ⟨Nat.le_refl _, Nat.le_refl _⟩ hP hD hS (fun H locs hP hD hS => ?_)
        refine lv_aload_n hx hb dX2_likeliestKind_42 rfl (lv_at hl 0 rfl) ?_
        refine va_get_w S hK hP _ c_RI rfl igX2 2 (by decide) q160 rfl rfl dX2_likeliestKind_43 ?_
        refine lv_iload_n hx hb dX2_likeliestKind_46 rfl (lv_at hl 1 rfl) ?_
        obtain ⟨hin5, hF⟩ := gd_some hF
        refine cIald S hK hP ⟨rfl, by decide⟩ rfl hin5 dX2_likeliestKind_47 ?_
        obtain ⟨r7, u6, e8, hF⟩ := bdI_some hF
        refine MM.callSi (m_J6_bitCount_0f7a4 e8) k_X2_75 S ecOK hEs hK ⟨by decide, by decide⟩ rfl rfl hl.1 (Nat.le_of_ble_eq_true rfl) dX2_likeliestKind_48 ⟨Nat.le_refl _, Nat.le_refl _⟩ hP hD hS (fun H locs hP hD hS => ?_)
        refine lv_istore (lv' := [(7, .int _), (0, .ref _), (1, .int _), (2, .ref _), (3, .int _), (4, .int _), (5, .int _), (6, .int _)]) hx hb dX2_likeliestKind_51 hl (by decide) rfl (fun ls hl => ?_)
        refine lv_iload hx hb dX2_likeliestKind_53 (lv_at hl 0 rfl) ?_
        refine lv_iload hx hb dX2_likeliestKind_55 (lv_at hl 6 rfl) ?_
        refine lv_icmp_le (tgt := 68) hx hb dX2_likeliestKind_57 (by decide) (fun c9 => ?_) (fun c9 => ?_)
        · have hF := ite_t hF c9
          exact b68 _ ih _ _ _ _ _ _ _ hv2 hF H locs ls hP hD hS (lv_sub hl [1, 2, 3, 4, 5, 6, 7] rfl)
        · have hF := ite_f hF c9
          refine lv_iload hx hb dX2_likeliestKind_60 (lv_at hl 0 rfl) ?_
          refine lv_istore (lv' := [(5, .int _), (7, .int _), (0, .ref _), (1, .int _), (2, .ref _), (3, .int _), (4, .int _), (6, .int _)]) hx hb dX2_likeliestKind_62 hl (by decide) rfl (fun ls hl => ?_)
          refine lv_iload hx hb dX2_likeliestKind_64 (lv_at hl 7 rfl) ?_
          refine lv_istore (lv' := [(4, .int _), (5, .int _), (7, .int _), (0, .ref _), (1, .int _), (2, .ref _), (3, .int _), (6, .int _)]) hx hb dX2_likeliestKind_66 hl (by decide) rfl (fun ls hl => ?_)
          exact b68 _ ih _ _ _ _ _ _ _ hv2 hF H locs ls hP hD hS (lv_sub hl [3, 4, 5, 6, 0, 1, 7] rfl)
  unfold F_X2_likeliestKind at hF
  have b_main : BW p l e s m below meth c 5 116 [.ref (a 7), .int x1] D (AC a) (some (.int r)) (wlC cc a u') 8 (wlC cc a u) 0 [(0, .ref (a 7)), (1, .int x1)] [] := by
    intro H locs ls hP hD hS hl
    refine lv_aload_n hx hb dX2_likeliestKind_0 rfl (lv_at hl 0 rfl) ?_
    refine va_get_w S hK hP _ c_RI rfl igX2 0 (by decide) q158 rfl rfl dX2_likeliestKind_1 ?_
    refine va_get_w S hK hP _ (c_AR ⟨by decide, by decide⟩) rfl igX0 0 (by decide) q137 rfl rfl dX2_likeliestKind_4 ?_
    refine lv_iload_n hx hb dX2_likeliestKind_7 rfl (lv_at hl 1 rfl) ?_
    obtain ⟨hin10, hF⟩ := gd_some hF
    have hp11 := r_PR (t := 1) ⟨by decide, by decide⟩ hin10
    refine cPald S hK hP ⟨by decide, by decide⟩ hin10 dX2_likeliestKind_8 ?_
    refine lv_astore_n (lv' := [(2, .ref _), (0, .ref _), (1, .int _)]) hx hb dX2_likeliestKind_9 rfl hl (by decide) rfl (fun ls hl => ?_)
    refine lv_aload_n hx hb dX2_likeliestKind_10 rfl (lv_at hl 0 rfl) ?_
    refine va_get_w S hK hP _ (c_PR hp11) rfl igX1 0 (by decide) q104 rfl rfl dX2_likeliestKind_11 ?_
    refine lv_istore_n (lv' := [(3, .int _), (2, .ref _), (0, .ref _), (1, .int _)]) hx hb dX2_likeliestKind_14 rfl hl (by decide) rfl (fun ls hl => ?_)
    refine lv_iconst (v := 0) hx hb dX2_likeliestKind_15 (by decide) ?_
    refine lv_istore (lv' := [(4, .int _), (3, .int _), (2, .ref _), (0, .ref _), (1, .int _)]) hx hb dX2_likeliestKind_16 hl (by decide) rfl (fun ls hl => ?_)
    refine lv_iconst (v := -1) hx hb dX2_likeliestKind_18 (by decide) ?_
    refine lv_istore (lv' := [(5, .int _), (4, .int _), (3, .int _), (2, .ref _), (0, .ref _), (1, .int _)]) hx hb dX2_likeliestKind_19 hl (by decide) rfl (fun ls hl => ?_)
    refine lv_iconst (v := 0) hx hb dX2_likeliestKind_21 (by decide) ?_
    refine lv_istore (lv' := [(6, .int _), (5, .int _), (4, .int _), (3, .int _), (2, .ref _), (0, .ref _), (1, .int _)]) hx hb dX2_likeliestKind_22 hl (by decide) rfl (fun ls hl => ?_)
    exact b24 _ _ _ _ _ _ _ _ hp11 hF H locs ls hP hD hS (lv_sub hl [5, 6, 4, 3, 2, 1, 0] rfl)
  have hl := lv_entry ([.ref (a 7), .int x1]) (n := 8) (Nat.le_of_ble_eq_true rfl)
  rw [lg_entry_eq]
  generalize (lg_sl ([.ref (a 7), .int x1]) ++ List.replicate (8 - (lg_sl ([.ref (a 7), .int x1])).length) Slot.unset).toArray = ls at hl ⊢
  exact b_main _ _ _ hP hD hS hl

set_option maxRecDepth 100000 in
set_option maxHeartbeats 4000000 in
theorem m_X6_kind  {x1 : Int32} {u u' : Mem} {r : Int32}  (hF : F_X6_kind  u x1 = some (r, u')) : MC l D cc a tU adK adV yX6_kind cX6_kind 2 (some .int) 6 143 [.ref (a 0), .int x1] u (some (.int r)) u' := by
  refine MM.ofW (by decide) (fun p e s m below meth c S hr hlocks hK hEs hP hD hS => ?_)
  have S : CallFix p m c cX6_kind 2 s _ gtbl RX6 := S
  obtain ⟨hx, hb, hml, hown, hts⟩ := id S
  unfold F_X6_kind at hF
  have b_main : BW p l e s m below meth c 6 143 [.ref (a 0), .int x1] D (AC a) (some (.int r)) (wlC cc a u') 2 (wlC cc a u) 0 [(0, .ref (a 0)), (1, .int x1)] [] := by
    intro H locs ls hP hD hS hl
    refine lv_aload_n hx hb dX6_kind_0 rfl (lv_at hl 0 rfl) ?_
    refine va_get_w S hK hP _ c_SP rfl igX6 0 (by decide) q259 rfl rfl dX6_kind_1 ?_
    refine lv_iload_n hx hb dX6_kind_4 rfl (lv_at hl 1 rfl) ?_
    obtain ⟨r2, u1, e3, hF⟩ := bdI_some hF
    refine MM.callVi (m_X0_has ⟨by decide, by decide⟩ e3) k_X6_77 S ecOK hEs hK ⟨by decide, by decide⟩ (va_recv hK hP rfl (c_AR ⟨by decide, by decide⟩)) rfl rfl hl.1 (Nat.le_of_ble_eq_true rfl) dX6_kind_5 ⟨Nat.le_refl _, Nat.le_refl _⟩ hP hD hS (fun H locs hP hD hS => ?_)
    refine lv_if_ne (tgt := 18) hx hb dX6_kind_8 (by decide) (fun c4 => ?_) (fun c4 => ?_)
    · have hF := ite_f hF c4
      refine lv_aload_n hx hb dX6_kind_18 rfl (lv_at hl 0 rfl) ?_
      refine va_get_w S hK hP _ c_SP rfl igX6 2 (by decide) q261 rfl rfl dX6_kind_19 ?_
      obtain ⟨u5, e7, hF⟩ := bdV_some hF
      refine MM.callVv (m_X2_weigh e7) k_X6_163 S ecOK hEs hK ⟨by decide, by decide⟩ (va_recv hK hP rfl c_RI) rfl rfl hl.1 (Nat.le_of_ble_eq_true rfl) dX6_kind_22 ⟨Nat.le_refl _, Nat.le_refl _⟩ hP hD hS (fun H locs hP hD hS => ?_)
      refine lv_aload_n hx hb dX6_kind_25 rfl (lv_at hl 0 rfl) ?_
      refine va_get_w S hK hP _ c_SP rfl igX6 2 (by decide) q261 rfl rfl dX6_kind_26 ?_
      refine lv_iload_n hx hb dX6_kind_29 rfl (lv_at hl 1 rfl) ?_
      obtain ⟨r9, u8, e10, hF⟩ := bdI_some hF
      refine MM.callVi (m_X2_likeliestKind e10) k_X6_208 S ecOK hEs hK ⟨by decide, by decide⟩ (va_recv hK hP rfl c_RI) rfl rfl hl.1 (Nat.le_of_ble_eq_true rfl) dX6_kind_30 ⟨Nat.le_refl _, Nat.le_refl _⟩ hP hD hS (fun H locs hP hD hS => ?_)
      obtain ⟨rfl, rfl⟩ := sp_eq hF
      exact retI S hr hlocks hP hD hS dX6_kind_33
    · have hF := ite_t hF c4
      refine lv_aload_n hx hb dX6_kind_11 rfl (lv_at hl 0 rfl) ?_
      refine lv_ldc hx hb hown (hts _ q291) dX6_kind_12 ?_
      obtain ⟨r12, u11, e13, hF⟩ := bdI_some hF
      refine MM.callVi (m_X6_found e13) k_X6_64 S ecOK hEs hK ⟨by decide, by decide⟩ (va_recv hK hP rfl c_SP) rfl rfl hl.1 (Nat.le_of_ble_eq_true rfl) dX6_kind_14 ⟨Nat.le_refl _, Nat.le_refl _⟩ hP hD hS (fun H locs hP hD hS => ?_)
      obtain ⟨rfl, rfl⟩ := sp_eq hF
      exact retI S hr hlocks hP hD hS dX6_kind_17
  have hl := lv_entry ([.ref (a 0), .int x1]) (n := 2) (Nat.le_of_ble_eq_true rfl)
  rw [lg_entry_eq]
  generalize (lg_sl ([.ref (a 0), .int x1]) ++ List.replicate (2 - (lg_sl ([.ref (a 0), .int x1])).length) Slot.unset).toArray = ls at hl ⊢
  exact b_main _ _ _ hP hD hS hl

set_option maxRecDepth 100000 in
set_option maxHeartbeats 4000000 in
theorem m_X2_howManyPairs   {u u' : Mem} {r : Int32}  (hF : F_X2_howManyPairs  u  = some (r, u')) : MC l D cc a tU adK adV yX2_howManyPairs cX2_howManyPairs 3 (some .int) 1 20 [.ref (a 7)] u (some (.int r)) u' := by
  refine MM.ofW (by decide) (fun p e s m below meth c S hr hlocks hK hEs hP hD hS => ?_)
  have S : CallFix p m c cX2_howManyPairs 3 s _ gtbl RX2 := S
  obtain ⟨hx, hb, hml, hown, hts⟩ := id S
  have b4 : ∀ (n : Nat) (u : Mem) (v1 : Int32) (v2 : Int32) , F_X2_howManyPairs_4  n u v1 v2 = some (r, u') → BW p l e s m below meth c 1 20 [.ref (a 7)] D (AC a) (some (.int r)) (wlC cc a u') 3 (wlC cc a u) 4 [(0, .ref (a 7)), (1, .int v1), (2, .int v2)] [] := by
    intro n
    induction n with
    | zero => intro u v1 v2 hF; cases hF
    | succ n ih =>
      intro u v1 v2 hF H locs ls hP hD hS hl
      unfold F_X2_howManyPairs_4 at hF
      refine lv_iload_n hx hb dX2_howManyPairs_4 rfl (lv_at hl 2 rfl) ?_
      refine lv_aload_n hx hb dX2_howManyPairs_5 rfl (lv_at hl 0 rfl) ?_
      refine va_get_w S hK hP _ c_RI rfl igX2 0 (by decide) q158 rfl rfl dX2_howManyPairs_6 ?_
      refine va_get_w S hK hP _ (c_AR ⟨by decide, by decide⟩) rfl igX0 1 (by decide) q139 rfl rfl dX2_howManyPairs_9 ?_
      refine lv_icmp_ge (tgt := 33) hx hb dX2_howManyPairs_12 (by decide) (fun c1 => ?_) (fun c1 => ?_)
      · have hF := ite_t hF c1
        refine lv_iload_n hx hb dX2_howManyPairs_33 rfl (lv_at hl 1 rfl) ?_
        refine lv_iconst (v := 2) hx hb dX2_howManyPairs_34 (by decide) ?_
        refine lv_idiv hx hb dX2_howManyPairs_35 (by decide) ?_
        obtain ⟨rfl, rfl⟩ := sp_eq hF
        exact retI S hr hlocks hP hD hS dX2_howManyPairs_36
      · have hF := ite_f hF c1
        refine lv_iload_n hx hb dX2_howManyPairs_15 rfl (lv_at hl 1 rfl) ?_
        refine lv_aload_n hx hb dX2_howManyPairs_16 rfl (lv_at hl 0 rfl) ?_
        refine va_get_w S hK hP _ c_RI rfl igX2 2 (by decide) q160 rfl rfl dX2_howManyPairs_17 ?_
        refine lv_iload_n hx hb dX2_howManyPairs_20 rfl (lv_at hl 2 rfl) ?_
        obtain ⟨hin2, hF⟩ := gd_some hF
        refine cIald S hK hP ⟨rfl, by decide⟩ rfl hin2 dX2_howManyPairs_21 ?_
        obtain ⟨r4, u3, e5, hF⟩ := bdI_some hF
        refine MM.callSi (m_J6_bitCount_0f7a4 e5) k_X2_75 S ecOK hEs hK ⟨by decide, by decide⟩ rfl rfl hl.1 (Nat.le_of_ble_eq_true rfl) dX2_howManyPairs_22 ⟨Nat.le_refl _, Nat.le_refl _⟩ hP hD hS (fun H locs hP hD hS => ?_)
        refine lv_iadd hx hb dX2_howManyPairs_25 ?_
        refine lv_istore_n (lv' := [(1, .int _), (0, .ref _), (2, .int _)]) hx hb dX2_howManyPairs_26 rfl hl (by decide) rfl (fun ls hl => ?_)
        refine lv_inc1 (k := 2) (lv' := [(2, .int _), (1, .int _), (0, .ref _)]) hx hb dX2_howManyPairs_27 hl rfl (by decide) rfl (fun ls hl => ?_)
        refine lv_goto (tgt := 4) hx hb dX2_howManyPairs_30 (by decide) ?_
        exact ih _ _ _  hF H locs ls hP hD hS (lv_sub hl [2, 1, 0] rfl)
  unfold F_X2_howManyPairs at hF
  have b_main : BW p l e s m below meth c 1 20 [.ref (a 7)] D (AC a) (some (.int r)) (wlC cc a u') 3 (wlC cc a u) 0 [(0, .ref (a 7))] [] := by
    intro H locs ls hP hD hS hl
    refine lv_iconst (v := 0) hx hb dX2_howManyPairs_0 (by decide) ?_
    refine lv_istore_n (lv' := [(1, .int _), (0, .ref _)]) hx hb dX2_howManyPairs_1 rfl hl (by decide) rfl (fun ls hl => ?_)
    refine lv_iconst (v := 0) hx hb dX2_howManyPairs_2 (by decide) ?_
    refine lv_istore_n (lv' := [(2, .int _), (1, .int _), (0, .ref _)]) hx hb dX2_howManyPairs_3 rfl hl (by decide) rfl (fun ls hl => ?_)
    exact b4 _ _ _ _  hF H locs ls hP hD hS (lv_sub hl [2, 1, 0] rfl)
  have hl := lv_entry ([.ref (a 7)]) (n := 3) (Nat.le_of_ble_eq_true rfl)
  rw [lg_entry_eq]
  generalize (lg_sl ([.ref (a 7)]) ++ List.replicate (3 - (lg_sl ([.ref (a 7)])).length) Slot.unset).toArray = ls at hl ⊢
  exact b_main _ _ _ hP hD hS hl

set_option maxRecDepth 100000 in
set_option maxHeartbeats 4000000 in
theorem m_X6_pairs   {u u' : Mem} {r : Int32}  (hF : F_X6_pairs  u  = some (r, u')) : MC l D cc a tU adK adV yX6_pairs cX6_pairs 1 (some .int) 5 116 [.ref (a 0)] u (some (.int r)) u' := by
  refine MM.ofW (by decide) (fun p e s m below meth c S hr hlocks hK hEs hP hD hS => ?_)
  have S : CallFix p m c cX6_pairs 1 s _ gtbl RX6 := S
  obtain ⟨hx, hb, hml, hown, hts⟩ := id S
  unfold F_X6_pairs at hF
  have b_main : BW p l e s m below meth c 5 116 [.ref (a 0)] D (AC a) (some (.int r)) (wlC cc a u') 1 (wlC cc a u) 0 [(0, .ref (a 0))] [] := by
    intro H locs ls hP hD hS hl
    refine lv_aload_n hx hb dX6_pairs_0 rfl (lv_at hl 0 rfl) ?_
    refine va_get_w S hK hP _ c_SP rfl igX6 2 (by decide) q261 rfl rfl dX6_pairs_1 ?_
    obtain ⟨u1, e3, hF⟩ := bdV_some hF
    refine MM.callVv (m_X2_weigh e3) k_X6_163 S ecOK hEs hK ⟨by decide, by decide⟩ (va_recv hK hP rfl c_RI) rfl rfl hl.1 (Nat.le_of_ble_eq_true rfl) dX6_pairs_4 ⟨Nat.le_refl _, Nat.le_refl _⟩ hP hD hS (fun H locs hP hD hS => ?_)
    refine lv_aload_n hx hb dX6_pairs_7 rfl (lv_at hl 0 rfl) ?_
    refine va_get_w S hK hP _ c_SP rfl igX6 2 (by decide) q261 rfl rfl dX6_pairs_8 ?_
    obtain ⟨r5, u4, e6, hF⟩ := bdI_some hF
    refine MM.callVi (m_X2_howManyPairs e6) k_X6_211 S ecOK hEs hK ⟨by decide, by decide⟩ (va_recv hK hP rfl c_RI) rfl rfl hl.1 (Nat.le_of_ble_eq_true rfl) dX6_pairs_11 ⟨Nat.le_refl _, Nat.le_refl _⟩ hP hD hS (fun H locs hP hD hS => ?_)
    obtain ⟨rfl, rfl⟩ := sp_eq hF
    exact retI S hr hlocks hP hD hS dX6_pairs_14
  have hl := lv_entry ([.ref (a 0)]) (n := 1) (Nat.le_of_ble_eq_true rfl)
  rw [lg_entry_eq]
  generalize (lg_sl ([.ref (a 0)]) ++ List.replicate (1 - (lg_sl ([.ref (a 0)])).length) Slot.unset).toArray = ls at hl ⊢
  exact b_main _ _ _ hP hD hS hl

set_option maxRecDepth 100000 in
set_option maxHeartbeats 4000000 in
theorem m_X4_take  {x1 : Int32} {u u' : Mem}  (hF : F_X4_take  u x1 = some u') : MC l D cc a tU adK adV yX4_take cX4_take 2 none 0 0 [.ref (a 15), .int x1] u none u' := by
  refine MM.ofW (by decide) (fun p e s m below meth c S hr hlocks hK hEs hP hD hS => ?_)
  have S : CallFix p m c cX4_take 2 s _ gtbl RX4 := S
  obtain ⟨hx, hb, hml, hown, hts⟩ := id S
  have b29 : ∀  (u : Mem)  , F_X4_take_29  u  = some u' → BW p l e s m below meth c 0 0 [.ref (a 15), .int x1] D (AC a) none (wlC cc a u') 2 (wlC cc a u) 29 [] [] := by
    intro  u  hF H locs ls hP hD hS hl
    unfold F_X4_take_29 at hF
    obtain rfl := sv_eq hF
    exact retV S hr hlocks hP hD hS dX4_take_29
  unfold F_X4_take at hF
  have b_main : BW p l e s m below meth c 0 0 [.ref (a 15), .int x1] D (AC a) none (wlC cc a u') 2 (wlC cc a u) 0 [(0, .ref (a 15)), (1, .int x1)] [] := by
    intro H locs ls hP hD hS hl
    refine lv_aload_n hx hb dX4_take_0 rfl (lv_at hl 0 rfl) ?_
    refine va_get_w S hK hP _ c_TA rfl igX4 1 (by decide) q200 rfl rfl dX4_take_1 ?_
    refine lv_bipush (v := 120) hx hb dX4_take_4 (by decide) ?_
    refine lv_icmp_ge (tgt := 29) hx hb dX4_take_6 (by decide) (fun c1 => ?_) (fun c1 => ?_)
    · have hF := ite_t hF c1
      exact b29 _  hF H locs ls hP hD hS (lv_sub hl [] rfl)
    · have hF := ite_f hF c1
      refine lv_aload_n hx hb dX4_take_9 rfl (lv_at hl 0 rfl) ?_
      refine va_get_w S hK hP _ c_TA rfl igX4 0 (by decide) q199 rfl rfl dX4_take_10 ?_
      refine lv_aload_n hx hb dX4_take_13 rfl (lv_at hl 0 rfl) ?_
      refine va_get_w S hK hP _ c_TA rfl igX4 1 (by decide) q200 rfl rfl dX4_take_14 ?_
      refine lv_iload_n hx hb dX4_take_17 rfl (lv_at hl 1 rfl) ?_
      obtain ⟨hin2, hF⟩ := gd_some hF
      refine cIast S hK hP hD hS ⟨rfl, by decide⟩ rfl hin2 dX4_take_18 (fun H locs hP hD hS => ?_)
      refine lv_aload_n hx hb dX4_take_19 rfl (lv_at hl 0 rfl) ?_
      refine lv_dup hx hb dX4_take_20 rfl ?_
      refine va_get_w S hK hP _ c_TA rfl igX4 1 (by decide) q200 rfl rfl dX4_take_21 ?_
      refine lv_iconst (v := 1) hx hb dX4_take_24 (by decide) ?_
      refine lv_iadd hx hb dX4_take_25 ?_
      refine va_put_w S igX4 tyX4 tyX4_ok nmX4 hK hP hD hS _ c_TA rfl 1 (by decide) q200 rfl rfl (tyX4_ok 1 (by decide)) rfl rfl (Nat.le_of_ble_eq_true rfl) z_TA dX4_take_26 (fun H locs hP hD hS => ?_)
      obtain ⟨u3, e4, hF⟩ := bdV_some hF
      obtain rfl := sv_eq e4
      exact b29 _  hF H locs ls hP hD hS (lv_sub hl [] rfl)
  have hl := lv_entry ([.ref (a 15), .int x1]) (n := 2) (Nat.le_of_ble_eq_true rfl)
  rw [lg_entry_eq]
  generalize (lg_sl ([.ref (a 15), .int x1]) ++ List.replicate (2 - (lg_sl ([.ref (a 15), .int x1])).length) Slot.unset).toArray = ls at hl ⊢
  exact b_main _ _ _ hP hD hS hl

set_option maxRecDepth 100000 in
set_option maxHeartbeats 4000000 in
theorem m_X6_feed  {x1 : Int32} {x2 : Int32} {u u' : Mem} {r : Int32}  (hF : F_X6_feed  u x1 x2 = some (r, u')) : MC l D cc a tU adK adV yX6_feed cX6_feed 4 (some .int) 1 22 [.ref (a 0), .int x1, .int x2] u (some (.int r)) u' := by
  refine MM.ofW (by decide) (fun p e s m below meth c S hr hlocks hK hEs hP hD hS => ?_)
  have S : CallFix p m c cX6_feed 4 s _ gtbl RX6 := S
  obtain ⟨hx, hb, hml, hown, hts⟩ := id S
  have b10 : ∀  (u : Mem)  , F_X6_feed_10  u  = some (r, u') → BW p l e s m below meth c 1 22 [.ref (a 0), .int x1, .int x2] D (AC a) (some (.int r)) (wlC cc a u') 4 (wlC cc a u) 10 [(0, .ref (a 0))] [] := by
    intro  u  hF H locs ls hP hD hS hl
    unfold F_X6_feed_10 at hF
    refine lv_aload_n hx hb dX6_feed_10 rfl (lv_at hl 0 rfl) ?_
    refine lv_ldc hx hb hown (hts _ q291) dX6_feed_11 ?_
    obtain ⟨r2, u1, e3, hF⟩ := bdI_some hF
    refine MM.callVi (m_X6_found e3) k_X6_64 S ecOK hEs hK ⟨by decide, by decide⟩ (va_recv hK hP rfl c_SP) rfl rfl hl.1 (Nat.le_of_ble_eq_true rfl) dX6_feed_13 ⟨Nat.le_refl _, Nat.le_refl _⟩ hP hD hS (fun H locs hP hD hS => ?_)
    obtain ⟨rfl, rfl⟩ := sp_eq hF
    exact retI S hr hlocks hP hD hS dX6_feed_16
  have b42 : ∀ (n : Nat) (u : Mem) (v1 : Int32) (v3 : Int32) , F_X6_feed_42  n u v1 v3 = some (r, u') → BW p l e s m below meth c 1 22 [.ref (a 0), .int x1, .int x2] D (AC a) (some (.int r)) (wlC cc a u') 4 (wlC cc a u) 42 [(0, .ref (a 0)), (1, .int v1), (3, .int v3)] [] := by
    intro n
    induction n with
    | zero => intro u v1 v3 hF; cases hF
    | succ n ih =>
      intro u v1 v3 hF H locs ls hP hD hS hl
      unfold F_X6_feed_42 at hF
      refine lv_iload_n hx hb dX6_feed_42 rfl (lv_at hl 2 rfl) ?_
      refine lv_if_lt (tgt := 69) hx hb dX6_feed_43 (by decide) (fun c4 => ?_) (fun c4 => ?_)
      · have hF := ite_t hF c4
        refine lv_aload_n hx hb dX6_feed_69 rfl (lv_at hl 0 rfl) ?_
        refine va_get_w S hK hP _ c_SP rfl igX6 3 (by decide) q262 rfl rfl dX6_feed_70 ?_
        refine va_get_w S hK hP _ c_TA rfl igX4 1 (by decide) q202 rfl rfl dX6_feed_73 ?_
        obtain ⟨rfl, rfl⟩ := sp_eq hF
        exact retI S hr hlocks hP hD hS dX6_feed_76
      · have hF := ite_f hF c4
        refine lv_aload_n hx hb dX6_feed_46 rfl (lv_at hl 0 rfl) ?_
        refine va_get_w S hK hP _ c_SP rfl igX6 3 (by decide) q262 rfl rfl dX6_feed_47 ?_
        refine lv_iload_n hx hb dX6_feed_50 rfl (lv_at hl 1 rfl) ?_
        refine lv_bipush (v := 8) hx hb dX6_feed_51 (by decide) ?_
        refine lv_iload_n hx hb dX6_feed_53 rfl (lv_at hl 2 rfl) ?_
        refine lv_imul hx hb dX6_feed_54 ?_
        refine lv_iushr hx hb dX6_feed_55 rfl ?_
        refine lv_sipush (v := 255) hx hb dX6_feed_56 (by decide) ?_
        refine lv_iand hx hb dX6_feed_59 ?_
        obtain ⟨u5, e7, hF⟩ := bdV_some hF
        refine MM.callVv (m_X4_take e7) k_X6_217 S ecOK hEs hK ⟨by decide, by decide⟩ (va_recv hK hP rfl c_TA) rfl rfl hl.1 (Nat.le_of_ble_eq_true rfl) dX6_feed_60 ⟨Nat.le_refl _, Nat.le_refl _⟩ hP hD hS (fun H locs hP hD hS => ?_)
        refine lv_incm (k := 2) (lv' := [(3, .int _), (0, .ref _), (1, .int _)]) hx hb dX6_feed_63 hl rfl (by decide) rfl (fun ls hl => ?_)
        refine lv_goto (tgt := 42) hx hb dX6_feed_66 (by decide) ?_
        exact ih _ _ _  hF H locs ls hP hD hS (lv_sub hl [1, 2, 0] rfl)
  unfold F_X6_feed at hF
  have b_main : BW p l e s m below meth c 1 22 [.ref (a 0), .int x1, .int x2] D (AC a) (some (.int r)) (wlC cc a u') 4 (wlC cc a u) 0 [(0, .ref (a 0)), (1, .int x1), (2, .int x2)] [] := by
    intro H locs ls hP hD hS hl
    refine lv_iload_n hx hb dX6_feed_0 rfl (lv_at hl 2 rfl) ?_
    refine lv_iconst (v := 1) hx hb dX6_feed_1 (by decide) ?_
    refine lv_icmp_lt (tgt := 10) hx hb dX6_feed_2 (by decide) (fun c8 => ?_) (fun c8 => ?_)
    · have hF := ite_t hF c8
      exact b10 _  hF H locs ls hP hD hS (lv_sub hl [0] rfl)
    · have hF := ite_f hF c8
      refine lv_iload_n hx hb dX6_feed_5 rfl (lv_at hl 2 rfl) ?_
      refine lv_iconst (v := 4) hx hb dX6_feed_6 (by decide) ?_
      refine lv_icmp_le (tgt := 17) hx hb dX6_feed_7 (by decide) (fun c9 => ?_) (fun c9 => ?_)
      · have hF := ite_t hF c9
        refine lv_aload_n hx hb dX6_feed_17 rfl (lv_at hl 0 rfl) ?_
        refine va_get_w S hK hP _ c_SP rfl igX6 3 (by decide) q262 rfl rfl dX6_feed_18 ?_
        refine va_get_w S hK hP _ c_TA rfl igX4 1 (by decide) q202 rfl rfl dX6_feed_21 ?_
        refine lv_iload_n hx hb dX6_feed_24 rfl (lv_at hl 2 rfl) ?_
        refine lv_iadd hx hb dX6_feed_25 ?_
        refine lv_bipush (v := 120) hx hb dX6_feed_26 (by decide) ?_
        refine lv_icmp_le (tgt := 38) hx hb dX6_feed_28 (by decide) (fun c10 => ?_) (fun c10 => ?_)
        · have hF := ite_t hF c10
          refine lv_iload_n hx hb dX6_feed_38 rfl (lv_at hl 2 rfl) ?_
          refine lv_iconst (v := 1) hx hb dX6_feed_39 (by decide) ?_
          refine lv_isub hx hb dX6_feed_40 ?_
          refine lv_istore_n (lv' := [(3, .int _), (0, .ref _), (1, .int _), (2, .int _)]) hx hb dX6_feed_41 rfl hl (by decide) rfl (fun ls hl => ?_)
          exact b42 _ _ _ _  hF H locs ls hP hD hS (lv_sub hl [1, 2, 0] rfl)
        · have hF := ite_f hF c10
          refine lv_aload_n hx hb dX6_feed_31 rfl (lv_at hl 0 rfl) ?_
          refine lv_ldc hx hb hown (hts _ q300) dX6_feed_32 ?_
          obtain ⟨r12, u11, e13, hF⟩ := bdI_some hF
          refine MM.callVi (m_X6_found e13) k_X6_64 S ecOK hEs hK ⟨by decide, by decide⟩ (va_recv hK hP rfl c_SP) rfl rfl hl.1 (Nat.le_of_ble_eq_true rfl) dX6_feed_34 ⟨Nat.le_refl _, Nat.le_refl _⟩ hP hD hS (fun H locs hP hD hS => ?_)
          obtain ⟨rfl, rfl⟩ := sp_eq hF
          exact retI S hr hlocks hP hD hS dX6_feed_37
      · have hF := ite_f hF c9
        exact b10 _  hF H locs ls hP hD hS (lv_sub hl [0] rfl)
  have hl := lv_entry ([.ref (a 0), .int x1, .int x2]) (n := 4) (Nat.le_of_ble_eq_true rfl)
  rw [lg_entry_eq]
  generalize (lg_sl ([.ref (a 0), .int x1, .int x2]) ++ List.replicate (4 - (lg_sl ([.ref (a 0), .int x1, .int x2])).length) Slot.unset).toArray = ls at hl ⊢
  exact b_main _ _ _ hP hD hS hl

set_option maxRecDepth 100000 in
set_option maxHeartbeats 4000000 in
theorem m_X6_wipe   {u u' : Mem} {r : Int32}  (hF : F_X6_wipe  u  = some (r, u')) : MC l D cc a tU adK adV yX6_wipe cX6_wipe 2 (some .int) 0 0 [.ref (a 0)] u (some (.int r)) u' := by
  refine MM.ofW (by decide) (fun p e s m below meth c S hr hlocks hK hEs hP hD hS => ?_)
  have S : CallFix p m c cX6_wipe 2 s _ gtbl RX6 := S
  obtain ⟨hx, hb, hml, hown, hts⟩ := id S
  unfold F_X6_wipe at hF
  have b_main : BW p l e s m below meth c 0 0 [.ref (a 0)] D (AC a) (some (.int r)) (wlC cc a u') 2 (wlC cc a u) 0 [(0, .ref (a 0))] [] := by
    intro H locs ls hP hD hS hl
    refine lv_aload_n hx hb dX6_wipe_0 rfl (lv_at hl 0 rfl) ?_
    refine va_get_w S hK hP _ c_SP rfl igX6 3 (by decide) q262 rfl rfl dX6_wipe_1 ?_
    refine va_get_w S hK hP _ c_TA rfl igX4 1 (by decide) q202 rfl rfl dX6_wipe_4 ?_
    refine lv_istore_n (lv' := [(1, .int _), (0, .ref _)]) hx hb dX6_wipe_7 rfl hl (by decide) rfl (fun ls hl => ?_)
    refine lv_aload_n hx hb dX6_wipe_8 rfl (lv_at hl 1 rfl) ?_
    refine va_get_w S hK hP _ c_SP rfl igX6 3 (by decide) q262 rfl rfl dX6_wipe_9 ?_
    refine lv_iconst (v := 0) hx hb dX6_wipe_12 (by decide) ?_
    refine va_put_w S igX4 tyX4 tyX4_ok nmX4 hK hP hD hS _ c_TA rfl 1 (by decide) q202 rfl rfl (tyX4_ok 1 (by decide)) rfl rfl (Nat.le_of_ble_eq_true rfl) z_TA dX6_wipe_13 (fun H locs hP hD hS => ?_)
    refine lv_iload_n hx hb dX6_wipe_16 rfl (lv_at hl 0 rfl) ?_
    obtain ⟨rfl, rfl⟩ := sp_eq hF
    exact retI S hr hlocks hP hD hS dX6_wipe_17
  have hl := lv_entry ([.ref (a 0)]) (n := 2) (Nat.le_of_ble_eq_true rfl)
  rw [lg_entry_eq]
  generalize (lg_sl ([.ref (a 0)]) ++ List.replicate (2 - (lg_sl ([.ref (a 0)])).length) Slot.unset).toArray = ls at hl ⊢
  exact b_main _ _ _ hP hD hS hl

set_option maxRecDepth 100000 in
set_option maxHeartbeats 4000000 in
theorem m_X1_become {x0 : Nat} {x1 : Nat} {u u' : Mem} (hx0 : 28 ≤ x0 ∧ x0 ≤ 63) (hx1 : 28 ≤ x1 ∧ x1 ≤ 63) (hF : F_X1_become x0 u x1 = some u') : MC l D cc a tU adK adV yX1_become cX1_become 2 none 0 0 [.ref (a x0), .ref (a x1)] u none u' := by
  refine MM.ofW (by decide) (fun p e s m below meth c S hr hlocks hK hEs hP hD hS => ?_)
  have S : CallFix p m c cX1_become 2 s _ gtbl RX1 := S
  obtain ⟨hx, hb, hml, hown, hts⟩ := id S
  unfold F_X1_become at hF
  have b_main : BW p l e s m below meth c 0 0 [.ref (a x0), .ref (a x1)] D (AC a) none (wlC cc a u') 2 (wlC cc a u) 0 [(0, .ref (a x0)), (1, .ref (a x1))] [] := by
    intro H locs ls hP hD hS hl
    refine lv_aload_n hx hb dX1_become_0 rfl (lv_at hl 0 rfl) ?_
    refine lv_aload_n hx hb dX1_become_1 rfl (lv_at hl 1 rfl) ?_
    refine va_get_w S hK hP _ (c_PR hx1) rfl igX1 0 (by decide) q101 rfl rfl dX1_become_2 ?_
    refine va_put_w S igX1 tyX1 tyX1_ok nmX1 hK hP hD hS _ (c_PR hx0) rfl 0 (by decide) q101 rfl rfl (tyX1_ok 0 (by decide)) rfl rfl (Nat.le_of_ble_eq_true rfl) (z_PRi hx0 (by decide)) dX1_become_5 (fun H locs hP hD hS => ?_)
    refine lv_aload_n hx hb dX1_become_8 rfl (lv_at hl 0 rfl) ?_
    refine lv_aload_n hx hb dX1_become_9 rfl (lv_at hl 1 rfl) ?_
    refine va_get_w S hK hP _ (c_PR hx1) rfl igX1 1 (by decide) q105 rfl rfl dX1_become_10 ?_
    refine va_put_w S igX1 tyX1 tyX1_ok nmX1 hK hP hD hS _ (c_PR hx0) rfl 1 (by decide) q105 rfl rfl (tyX1_ok 1 (by decide)) rfl rfl (Nat.le_of_ble_eq_true rfl) (z_PRi hx0 (by decide)) dX1_become_13 (fun H locs hP hD hS => ?_)
    refine lv_aload_n hx hb dX1_become_16 rfl (lv_at hl 0 rfl) ?_
    refine lv_aload_n hx hb dX1_become_17 rfl (lv_at hl 1 rfl) ?_
    refine va_get_w S hK hP _ (c_PR hx1) rfl igX1 2 (by decide) q109 rfl rfl dX1_become_18 ?_
    refine va_put_w S igX1 tyX1 tyX1_ok nmX1 hK hP hD hS _ (c_PR hx0) rfl 2 (by decide) q109 rfl rfl (tyX1_ok 2 (by decide)) rfl rfl (Nat.le_of_ble_eq_true rfl) (z_PRi hx0 (by decide)) dX1_become_21 (fun H locs hP hD hS => ?_)
    obtain ⟨u1, e2, hF⟩ := bdV_some hF
    obtain rfl := sv_eq e2
    refine lv_aload_n hx hb dX1_become_24 rfl (lv_at hl 0 rfl) ?_
    refine lv_aload_n hx hb dX1_become_25 rfl (lv_at hl 1 rfl) ?_
    refine va_get_w S hK hP _ (c_PR hx1) rfl igX1 3 (by decide) q114 rfl rfl dX1_become_26 ?_
    obtain ⟨hz3, hF⟩ := gz_some hF
    refine va_put_w S igX1 tyX1 tyX1_ok nmX1 hK hP hD hS _ (c_PR hx0) rfl 3 (by decide) q114 rfl rfl (ty := .boolean) (tyX1_ok 3 (by decide)) (nz_ok hz3) (fz_ok hz3) (Nat.le_of_ble_eq_true rfl) (z_PRi hx0 (by decide)) dX1_become_29 (fun H locs hP hD hS => ?_)
    refine lv_aload_n hx hb dX1_become_32 rfl (lv_at hl 0 rfl) ?_
    refine lv_aload_n hx hb dX1_become_33 rfl (lv_at hl 1 rfl) ?_
    refine va_get_w S hK hP _ (c_PR hx1) rfl igX1 4 (by decide) q119 rfl rfl dX1_become_34 ?_
    refine va_put_w S igX1 tyX1 tyX1_ok nmX1 hK hP hD hS _ (c_PR hx0) rfl 4 (by decide) q119 rfl rfl (tyX1_ok 4 (by decide)) rfl rfl (Nat.le_of_ble_eq_true rfl) (z_PRl hx0) dX1_become_37 (fun H locs hP hD hS => ?_)
    obtain rfl := sv_eq hF
    exact retV S hr hlocks hP hD hS dX1_become_40
  have hl := lv_entry ([.ref (a x0), .ref (a x1)]) (n := 2) (Nat.le_of_ble_eq_true rfl)
  rw [lg_entry_eq]
  generalize (lg_sl ([.ref (a x0), .ref (a x1)]) ++ List.replicate (2 - (lg_sl ([.ref (a x0), .ref (a x1)])).length) Slot.unset).toArray = ls at hl ⊢
  exact b_main _ _ _ hP hD hS hl

set_option maxRecDepth 100000 in
set_option maxHeartbeats 4000000 in
theorem m_X0_become {x0 : Nat} {x1 : Nat} {u u' : Mem} (hx0 : 1 ≤ x0 ∧ x0 ≤ 3) (hx1 : 1 ≤ x1 ∧ x1 ≤ 3) (hF : F_X0_become x0 u x1 = some u') : MC l D cc a tU adK adV yX0_become cX0_become 3 none 1 21 [.ref (a (x0 + 3)), .ref (a (x1 + 3))] u none u' := by
  refine MM.ofW (by decide) (fun p e s m below meth c S hr hlocks hK hEs hP hD hS => ?_)
  have S : CallFix p m c cX0_become 3 s _ gtbl RX0 := S
  obtain ⟨hx, hb, hml, hown, hts⟩ := id S
  have b18 : ∀ (n : Nat) (u : Mem) (v0 : Nat) (v1 : Nat) (v2 : Int32) (hv0 : 1 ≤ v0 ∧ v0 ≤ 3) (hv1 : 1 ≤ v1 ∧ v1 ≤ 3), F_X0_become_18  n u v0 v1 v2 = some u' → BW p l e s m below meth c 1 21 [.ref (a (x0 + 3)), .ref (a (x1 + 3))] D (AC a) none (wlC cc a u') 3 (wlC cc a u) 18 [(0, .ref (a (v0 + 3))), (1, .ref (a (v1 + 3))), (2, .int v2)] [] := by
    intro n
    induction n with
    | zero => intro u v0 v1 v2 hv0 hv1 hF; cases hF
    | succ n ih =>
      intro u v0 v1 v2 hv0 hv1 hF H locs ls hP hD hS hl
      unfold F_X0_become_18 at hF
      refine lv_iload_n hx hb dX0_become_18 rfl (lv_at hl 2 rfl) ?_
      refine lv_aload_n hx hb dX0_become_19 rfl (lv_at hl 0 rfl) ?_
      refine va_get_w S hK hP _ (c_AR hv0) rfl igX0 1 (by decide) q138 rfl rfl dX0_become_20 ?_
      refine lv_icmp_ge (tgt := 47) hx hb dX0_become_23 (by decide) (fun c1 => ?_) (fun c1 => ?_)
      · have hF := ite_t hF c1
        obtain rfl := sv_eq hF
        exact retV S hr hlocks hP hD hS dX0_become_47
      · have hF := ite_f hF c1
        refine lv_aload_n hx hb dX0_become_26 rfl (lv_at hl 0 rfl) ?_
        refine va_get_w S hK hP _ (c_AR hv0) rfl igX0 0 (by decide) q134 rfl rfl dX0_become_27 ?_
        refine lv_iload_n hx hb dX0_become_30 rfl (lv_at hl 2 rfl) ?_
        obtain ⟨hin2, hF⟩ := gd_some hF
        have hp3 := r_PR (t := v0) hv0 hin2
        refine cPald S hK hP hv0 hin2 dX0_become_31 ?_
        refine lv_aload_n hx hb dX0_become_32 rfl (lv_at hl 1 rfl) ?_
        refine va_get_w S hK hP _ (c_AR hv1) rfl igX0 0 (by decide) q134 rfl rfl dX0_become_33 ?_
        refine lv_iload_n hx hb dX0_become_36 rfl (lv_at hl 2 rfl) ?_
        obtain ⟨hin4, hF⟩ := gd_some hF
        have hp5 := r_PR (t := v1) hv1 hin4
        refine cPald S hK hP hv1 hin4 dX0_become_37 ?_
        obtain ⟨u6, e8, hF⟩ := bdV_some hF
        refine MM.callVv (m_X1_become hp3 hp5 e8) k_X0_25 S ecOK hEs hK ⟨by decide, by decide⟩ (va_recv hK hP rfl (c_PR hp3)) rfl rfl hl.1 (Nat.le_of_ble_eq_true rfl) dX0_become_38 ⟨Nat.le_refl _, Nat.le_refl _⟩ hP hD hS (fun H locs hP hD hS => ?_)
        refine lv_inc1 (k := 2) (lv' := [(2, .int _), (0, .ref _), (1, .ref _)]) hx hb dX0_become_41 hl rfl (by decide) rfl (fun ls hl => ?_)
        refine lv_goto (tgt := 18) hx hb dX0_become_44 (by decide) ?_
        exact ih _ _ _ _ hv0 hv1 hF H locs ls hP hD hS (lv_sub hl [1, 2, 0] rfl)
  unfold F_X0_become at hF
  have b_main : BW p l e s m below meth c 1 21 [.ref (a (x0 + 3)), .ref (a (x1 + 3))] D (AC a) none (wlC cc a u') 3 (wlC cc a u) 0 [(0, .ref (a (x0 + 3))), (1, .ref (a (x1 + 3)))] [] := by
    intro H locs ls hP hD hS hl
    refine lv_aload_n hx hb dX0_become_0 rfl (lv_at hl 0 rfl) ?_
    refine lv_aload_n hx hb dX0_become_1 rfl (lv_at hl 1 rfl) ?_
    refine va_get_w S hK hP _ (c_AR hx1) rfl igX0 1 (by decide) q138 rfl rfl dX0_become_2 ?_
    refine va_put_w S igX0 tyX0 tyX0_ok nmX0 hK hP hD hS _ (c_AR hx0) rfl 1 (by decide) q138 rfl rfl (tyX0_ok 1 (by decide)) rfl rfl (Nat.le_of_ble_eq_true rfl) (z_AR1 hx0) dX0_become_5 (fun H locs hP hD hS => ?_)
    refine lv_aload_n hx hb dX0_become_8 rfl (lv_at hl 0 rfl) ?_
    refine lv_aload_n hx hb dX0_become_9 rfl (lv_at hl 1 rfl) ?_
    refine va_get_w S hK hP _ (c_AR hx1) rfl igX0 2 (by decide) q142 rfl rfl dX0_become_10 ?_
    refine va_put_w S igX0 tyX0 tyX0_ok nmX0 hK hP hD hS _ (c_AR hx0) rfl 2 (by decide) q142 rfl rfl (tyX0_ok 2 (by decide)) rfl rfl (Nat.le_of_ble_eq_true rfl) (z_AR2 hx0) dX0_become_13 (fun H locs hP hD hS => ?_)
    obtain ⟨u9, e10, hF⟩ := bdV_some hF
    obtain rfl := sv_eq e10
    refine lv_iconst (v := 0) hx hb dX0_become_16 (by decide) ?_
    refine lv_istore_n (lv' := [(2, .int _), (0, .ref _), (1, .ref _)]) hx hb dX0_become_17 rfl hl (by decide) rfl (fun ls hl => ?_)
    exact b18 _ _ _ _ _ hx0 hx1 hF H locs ls hP hD hS (lv_sub hl [1, 2, 0] rfl)
  have hl := lv_entry ([.ref (a (x0 + 3)), .ref (a (x1 + 3))]) (n := 3) (Nat.le_of_ble_eq_true rfl)
  rw [lg_entry_eq]
  generalize (lg_sl ([.ref (a (x0 + 3)), .ref (a (x1 + 3))]) ++ List.replicate (3 - (lg_sl ([.ref (a (x0 + 3)), .ref (a (x1 + 3))])).length) Slot.unset).toArray = ls at hl ⊢
  exact b_main _ _ _ hP hD hS hl

set_option maxRecDepth 100000 in
set_option maxHeartbeats 4000000 in
theorem m_X4_at  {x1 : Int32} {u u' : Mem} {r : Int32}  (hF : F_X4_at  u x1 = some (r, u')) : MC l D cc a tU adK adV yX4_at cX4_at 2 (some .int) 0 0 [.ref (a 15), .int x1] u (some (.int r)) u' := by
  refine MM.ofW (by decide) (fun p e s m below meth c S hr hlocks hK hEs hP hD hS => ?_)
  have S : CallFix p m c cX4_at 2 s _ gtbl RX4 := S
  obtain ⟨hx, hb, hml, hown, hts⟩ := id S
  have b22 : ∀  (u : Mem) (y0 : Int32) , F_X4_at_22  u y0 = some (r, u') → BW p l e s m below meth c 0 0 [.ref (a 15), .int x1] D (AC a) (some (.int r)) (wlC cc a u') 2 (wlC cc a u) 22 [] [.int y0] := by
    intro  u y0 hF H locs ls hP hD hS hl
    unfold F_X4_at_22 at hF
    obtain ⟨rfl, rfl⟩ := sp_eq hF
    exact retI S hr hlocks hP hD hS dX4_at_22
  have b21 : ∀  (u : Mem)  , F_X4_at_21  u  = some (r, u') → BW p l e s m below meth c 0 0 [.ref (a 15), .int x1] D (AC a) (some (.int r)) (wlC cc a u') 2 (wlC cc a u) 21 [] [] := by
    intro  u  hF H locs ls hP hD hS hl
    unfold F_X4_at_21 at hF
    refine lv_iconst (v := -1) hx hb dX4_at_21 (by decide) ?_
    exact b22 _ _  hF H locs ls hP hD hS (lv_sub hl [] rfl)
  unfold F_X4_at at hF
  have b_main : BW p l e s m below meth c 0 0 [.ref (a 15), .int x1] D (AC a) (some (.int r)) (wlC cc a u') 2 (wlC cc a u) 0 [(0, .ref (a 15)), (1, .int x1)] [] := by
    intro H locs ls hP hD hS hl
    refine lv_iload_n hx hb dX4_at_0 rfl (lv_at hl 1 rfl) ?_
    refine lv_if_lt (tgt := 21) hx hb dX4_at_1 (by decide) (fun c1 => ?_) (fun c1 => ?_)
    · have hF := ite_t hF c1
      exact b21 _  hF H locs ls hP hD hS (lv_sub hl [] rfl)
    · have hF := ite_f hF c1
      refine lv_iload_n hx hb dX4_at_4 rfl (lv_at hl 1 rfl) ?_
      refine lv_aload_n hx hb dX4_at_5 rfl (lv_at hl 0 rfl) ?_
      refine va_get_w S hK hP _ c_TA rfl igX4 1 (by decide) q200 rfl rfl dX4_at_6 ?_
      refine lv_icmp_ge (tgt := 21) hx hb dX4_at_9 (by decide) (fun c2 => ?_) (fun c2 => ?_)
      · have hF := ite_t hF c2
        exact b21 _  hF H locs ls hP hD hS (lv_sub hl [] rfl)
      · have hF := ite_f hF c2
        refine lv_aload_n hx hb dX4_at_12 rfl (lv_at hl 0 rfl) ?_
        refine va_get_w S hK hP _ c_TA rfl igX4 0 (by decide) q199 rfl rfl dX4_at_13 ?_
        refine lv_iload_n hx hb dX4_at_16 rfl (lv_at hl 1 rfl) ?_
        obtain ⟨hin3, hF⟩ := gd_some hF
        refine cIald S hK hP ⟨rfl, by decide⟩ rfl hin3 dX4_at_17 ?_
        refine lv_goto (tgt := 22) hx hb dX4_at_18 (by decide) ?_
        exact b22 _ _  hF H locs ls hP hD hS (lv_sub hl [] rfl)
  have hl := lv_entry ([.ref (a 15), .int x1]) (n := 2) (Nat.le_of_ble_eq_true rfl)
  rw [lg_entry_eq]
  generalize (lg_sl ([.ref (a 15), .int x1]) ++ List.replicate (2 - (lg_sl ([.ref (a 15), .int x1])).length) Slot.unset).toArray = ls at hl ⊢
  exact b_main _ _ _ hP hD hS hl

set_option maxRecDepth 100000 in
set_option maxHeartbeats 4000000 in
theorem m_X5_isLetter  {x0 : Int32} {u u' : Mem} {r : Int32}  (hF : F_X5_isLetter  u x0 = some (r, u')) : MC l D cc a tU adK adV yX5_isLetter cX5_isLetter 1 (some .boolean) 0 0 [.int x0] u (some (.int r)) u' := by
  refine MM.ofW (by decide) (fun p e s m below meth c S hr hlocks hK hEs hP hD hS => ?_)
  have S : CallFix p m c cX5_isLetter 1 s _ gtbl RX5 := S
  obtain ⟨hx, hb, hml, hown, hts⟩ := id S
  have b17 : ∀  (u : Mem) (y0 : Int32) , F_X5_isLetter_17  u y0 = some (r, u') → BW p l e s m below meth c 0 0 [.int x0] D (AC a) (some (.int r)) (wlC cc a u') 1 (wlC cc a u) 17 [] [.int y0] := by
    intro  u y0 hF H locs ls hP hD hS hl
    unfold F_X5_isLetter_17 at hF
    obtain ⟨hz1, hF⟩ := gz_some hF
    obtain ⟨rfl, rfl⟩ := sp_eq hF
    exact retZ S hr hlocks hP hD hS hz1 dX5_isLetter_17
  have b16 : ∀  (u : Mem)  , F_X5_isLetter_16  u  = some (r, u') → BW p l e s m below meth c 0 0 [.int x0] D (AC a) (some (.int r)) (wlC cc a u') 1 (wlC cc a u) 16 [] [] := by
    intro  u  hF H locs ls hP hD hS hl
    unfold F_X5_isLetter_16 at hF
    refine lv_iconst (v := 0) hx hb dX5_isLetter_16 (by decide) ?_
    exact b17 _ _  hF H locs ls hP hD hS (lv_sub hl [] rfl)
  unfold F_X5_isLetter at hF
  have b_main : BW p l e s m below meth c 0 0 [.int x0] D (AC a) (some (.int r)) (wlC cc a u') 1 (wlC cc a u) 0 [(0, .int x0)] [] := by
    intro H locs ls hP hD hS hl
    refine lv_iload_n hx hb dX5_isLetter_0 rfl (lv_at hl 0 rfl) ?_
    refine lv_bipush (v := 97) hx hb dX5_isLetter_1 (by decide) ?_
    refine lv_icmp_lt (tgt := 16) hx hb dX5_isLetter_3 (by decide) (fun c2 => ?_) (fun c2 => ?_)
    · have hF := ite_t hF c2
      exact b16 _  hF H locs ls hP hD hS (lv_sub hl [] rfl)
    · have hF := ite_f hF c2
      refine lv_iload_n hx hb dX5_isLetter_6 rfl (lv_at hl 0 rfl) ?_
      refine lv_bipush (v := 122) hx hb dX5_isLetter_7 (by decide) ?_
      refine lv_icmp_gt (tgt := 16) hx hb dX5_isLetter_9 (by decide) (fun c3 => ?_) (fun c3 => ?_)
      · have hF := ite_t hF c3
        exact b16 _  hF H locs ls hP hD hS (lv_sub hl [] rfl)
      · have hF := ite_f hF c3
        refine lv_iconst (v := 1) hx hb dX5_isLetter_12 (by decide) ?_
        refine lv_goto (tgt := 17) hx hb dX5_isLetter_13 (by decide) ?_
        exact b17 _ _  hF H locs ls hP hD hS (lv_sub hl [] rfl)
  have hl := lv_entry ([.int x0]) (n := 1) (Nat.le_of_ble_eq_true rfl)
  rw [lg_entry_eq]
  generalize (lg_sl ([.int x0]) ++ List.replicate (1 - (lg_sl ([.int x0])).length) Slot.unset).toArray = ls at hl ⊢
  exact b_main _ _ _ hP hD hS hl

set_option maxRecDepth 100000 in
set_option maxHeartbeats 4000000 in
theorem m_X5_stepOverLetters   {u u' : Mem}  (hF : F_X5_stepOverLetters  u  = some u') : MC l D cc a tU adK adV yX5_stepOverLetters cX5_stepOverLetters 1 none 1 21 [.ref (a 17)] u none u' := by
  refine MM.ofW (by decide) (fun p e s m below meth c S hr hlocks hK hEs hP hD hS => ?_)
  have S : CallFix p m c cX5_stepOverLetters 1 s _ gtbl RX5 := S
  obtain ⟨hx, hb, hml, hown, hts⟩ := id S
  have b44 : ∀  (u : Mem)  , F_X5_stepOverLetters_44  u  = some u' → BW p l e s m below meth c 1 21 [.ref (a 17)] D (AC a) none (wlC cc a u') 1 (wlC cc a u) 44 [] [] := by
    intro  u  hF H locs ls hP hD hS hl
    unfold F_X5_stepOverLetters_44 at hF
    obtain rfl := sv_eq hF
    exact retV S hr hlocks hP hD hS dX5_stepOverLetters_44
  have b0 : ∀ (n : Nat) (u : Mem)  , F_X5_stepOverLetters_0  n u  = some u' → BW p l e s m below meth c 1 21 [.ref (a 17)] D (AC a) none (wlC cc a u') 1 (wlC cc a u) 0 [(0, .ref (a 17))] [] := by
    intro n
    induction n with
    | zero => intro u  hF; cases hF
    | succ n ih =>
      intro u  hF H locs ls hP hD hS hl
      unfold F_X5_stepOverLetters_0 at hF
      refine lv_aload_n hx hb dX5_stepOverLetters_0 rfl (lv_at hl 0 rfl) ?_
      refine va_get_w S hK hP _ c_TR rfl igX5 5 (by decide) q221 rfl rfl dX5_stepOverLetters_1 ?_
      refine lv_aload_n hx hb dX5_stepOverLetters_4 rfl (lv_at hl 0 rfl) ?_
      refine va_get_w S hK hP _ c_TR rfl igX5 0 (by decide) q216 rfl rfl dX5_stepOverLetters_5 ?_
      refine va_get_w S hK hP _ c_TA rfl igX4 1 (by decide) q201 rfl rfl dX5_stepOverLetters_8 ?_
      refine lv_icmp_ge (tgt := 44) hx hb dX5_stepOverLetters_11 (by decide) (fun c1 => ?_) (fun c1 => ?_)
      · have hF := ite_t hF c1
        exact b44 _  hF H locs ls hP hD hS (lv_sub hl [] rfl)
      · have hF := ite_f hF c1
        refine lv_aload_n hx hb dX5_stepOverLetters_14 rfl (lv_at hl 0 rfl) ?_
        refine va_get_w S hK hP _ c_TR rfl igX5 0 (by decide) q216 rfl rfl dX5_stepOverLetters_15 ?_
        refine lv_aload_n hx hb dX5_stepOverLetters_18 rfl (lv_at hl 0 rfl) ?_
        refine va_get_w S hK hP _ c_TR rfl igX5 5 (by decide) q221 rfl rfl dX5_stepOverLetters_19 ?_
        obtain ⟨r3, u2, e4, hF⟩ := bdI_some hF
        refine MM.callVi (m_X4_at e4) k_X5_124 S ecOK hEs hK ⟨by decide, by decide⟩ (va_recv hK hP rfl c_TA) rfl rfl hl.1 (Nat.le_of_ble_eq_true rfl) dX5_stepOverLetters_22 ⟨Nat.le_refl _, Nat.le_refl _⟩ hP hD hS (fun H locs hP hD hS => ?_)
        obtain ⟨r6, u5, e7, hF⟩ := bdI_some hF
        refine MM.callSi (m_X5_isLetter e7) k_X5_135 S ecOK hEs hK ⟨by decide, by decide⟩ rfl rfl hl.1 (Nat.le_of_ble_eq_true rfl) dX5_stepOverLetters_25 ⟨Nat.le_refl _, Nat.le_refl _⟩ hP hD hS (fun H locs hP hD hS => ?_)
        refine lv_if_eq (tgt := 44) hx hb dX5_stepOverLetters_28 (by decide) (fun c8 => ?_) (fun c8 => ?_)
        · have hF := ite_t hF c8
          exact b44 _  hF H locs ls hP hD hS (lv_sub hl [] rfl)
        · have hF := ite_f hF c8
          refine lv_aload_n hx hb dX5_stepOverLetters_31 rfl (lv_at hl 0 rfl) ?_
          refine lv_dup hx hb dX5_stepOverLetters_32 rfl ?_
          refine va_get_w S hK hP _ c_TR rfl igX5 5 (by decide) q221 rfl rfl dX5_stepOverLetters_33 ?_
          refine lv_iconst (v := 1) hx hb dX5_stepOverLetters_36 (by decide) ?_
          refine lv_iadd hx hb dX5_stepOverLetters_37 ?_
          refine va_put_w S igX5 tyX5 tyX5_ok nmX5 hK hP hD hS _ c_TR rfl 5 (by decide) q221 rfl rfl (tyX5_ok 5 (by decide)) rfl rfl (Nat.le_of_ble_eq_true rfl) (z_TR (by decide)) dX5_stepOverLetters_38 (fun H locs hP hD hS => ?_)
          refine lv_goto (tgt := 0) hx hb dX5_stepOverLetters_41 (by decide) ?_
          exact ih _  hF H locs ls hP hD hS (lv_sub hl [0] rfl)
  unfold F_X5_stepOverLetters at hF
  have b_main : BW p l e s m below meth c 1 21 [.ref (a 17)] D (AC a) none (wlC cc a u') 1 (wlC cc a u) 0 [(0, .ref (a 17))] [] := by
    intro H locs ls hP hD hS hl
    exact b0 _ _  hF H locs ls hP hD hS (lv_sub hl [0] rfl)
  have hl := lv_entry ([.ref (a 17)]) (n := 1) (Nat.le_of_ble_eq_true rfl)
  rw [lg_entry_eq]
  generalize (lg_sl ([.ref (a 17)]) ++ List.replicate (1 - (lg_sl ([.ref (a 17)])).length) Slot.unset).toArray = ls at hl ⊢
  exact b_main _ _ _ hP hD hS hl

end
