section
variable {l : Launch} {D : va_G} {cc : Nat → ClassId} {a : Nat → Nat} {tU : Nat} {adK adV : Nat → Nat}
set_option maxRecDepth 100000 in
set_option maxHeartbeats 4000000 in
theorem m_X6_ahead  {x1 : Int32} {x2 : Int32} {u u' : Mem} {r : Int32}  (hF : F_X6_ahead  u x1 x2 = some (r, u')) : MC l D cc a tU adK adV yX6_ahead cX6_ahead 3 (some .int) 4 90 [.ref (a 0), .int x1, .int x2] u (some (.int r)) u' := by
  refine MM.ofW (by decide) (fun p e s m below meth c S hr hlocks hK hEs hP hD hS => ?_)
  have S : CallFix p m c cX6_ahead 3 s _ gtbl RX6 := S
  obtain ⟨hx, hb, hml, hown, hts⟩ := id S
  have b33 : ∀  (u : Mem) (y0 : Int32) , F_X6_ahead_33  u y0 = some (r, u') → BW p l e s m below meth c 4 90 [.ref (a 0), .int x1, .int x2] D (AC a) (some (.int r)) (wlC cc a u') 3 (wlC cc a u) 33 [] [.int y0] := by
    intro  u y0 hF H locs ls hP hD hS hl
    unfold F_X6_ahead_33 at hF
    obtain ⟨rfl, rfl⟩ := sp_eq hF
    exact retI S hr hlocks hP hD hS dX6_ahead_33
  unfold F_X6_ahead at hF
  have b_main : BW p l e s m below meth c 4 90 [.ref (a 0), .int x1, .int x2] D (AC a) (some (.int r)) (wlC cc a u') 3 (wlC cc a u) 0 [(0, .ref (a 0)), (1, .int x1), (2, .int x2)] [] := by
    intro H locs ls hP hD hS hl
    refine lv_aload_n hx hb dX6_ahead_0 rfl (lv_at hl 0 rfl) ?_
    refine lv_iload_n hx hb dX6_ahead_1 rfl (lv_at hl 1 rfl) ?_
    refine lv_iload_n hx hb dX6_ahead_2 rfl (lv_at hl 2 rfl) ?_
    obtain ⟨r2, u1, e3, hF⟩ := bdI_some hF
    refine MM.callVi (m_X6_areTwo e3) k_X6_142 S ecOK hEs hK ⟨by decide, by decide⟩ (va_recv hK hP rfl c_SP) rfl rfl hl.1 (Nat.le_of_ble_eq_true rfl) dX6_ahead_3 ⟨Nat.le_refl _, Nat.le_refl _⟩ hP hD hS (fun H locs hP hD hS => ?_)
    refine lv_if_ne (tgt := 16) hx hb dX6_ahead_6 (by decide) (fun c4 => ?_) (fun c4 => ?_)
    · have hF := ite_f hF c4
      refine lv_aload_n hx hb dX6_ahead_16 rfl (lv_at hl 0 rfl) ?_
      refine va_get_w S hK hP _ c_SP rfl igX6 0 (by decide) q259 rfl rfl dX6_ahead_17 ?_
      refine lv_iload_n hx hb dX6_ahead_20 rfl (lv_at hl 1 rfl) ?_
      refine lv_iload_n hx hb dX6_ahead_21 rfl (lv_at hl 2 rfl) ?_
      obtain ⟨r6, u5, e7, hF⟩ := bdI_some hF
      refine MM.callVi (m_X0_canBe ⟨by decide, by decide⟩ e7) k_X6_145 S ecOK hEs hK ⟨by decide, by decide⟩ (va_recv hK hP rfl (c_AR ⟨by decide, by decide⟩)) rfl rfl hl.1 (Nat.le_of_ble_eq_true rfl) dX6_ahead_22 ⟨Nat.le_refl _, Nat.le_refl _⟩ hP hD hS (fun H locs hP hD hS => ?_)
      refine lv_if_eq (tgt := 32) hx hb dX6_ahead_25 (by decide) (fun c8 => ?_) (fun c8 => ?_)
      · have hF := ite_t hF c8
        refine lv_iconst (v := 0) hx hb dX6_ahead_32 (by decide) ?_
        exact b33 _ _  hF H locs ls hP hD hS (lv_sub hl [] rfl)
      · have hF := ite_f hF c8
        refine lv_iconst (v := 1) hx hb dX6_ahead_28 (by decide) ?_
        refine lv_goto (tgt := 33) hx hb dX6_ahead_29 (by decide) ?_
        exact b33 _ _  hF H locs ls hP hD hS (lv_sub hl [] rfl)
    · have hF := ite_t hF c4
      refine lv_aload_n hx hb dX6_ahead_9 rfl (lv_at hl 0 rfl) ?_
      refine lv_ldc hx hb hown (hts _ q291) dX6_ahead_10 ?_
      obtain ⟨r10, u9, e11, hF⟩ := bdI_some hF
      refine MM.callVi (m_X6_found e11) k_X6_64 S ecOK hEs hK ⟨by decide, by decide⟩ (va_recv hK hP rfl c_SP) rfl rfl hl.1 (Nat.le_of_ble_eq_true rfl) dX6_ahead_12 ⟨Nat.le_refl _, Nat.le_refl _⟩ hP hD hS (fun H locs hP hD hS => ?_)
      obtain ⟨rfl, rfl⟩ := sp_eq hF
      exact retI S hr hlocks hP hD hS dX6_ahead_15
  have hl := lv_entry ([.ref (a 0), .int x1, .int x2]) (n := 3) (Nat.le_of_ble_eq_true rfl)
  rw [lg_entry_eq]
  generalize (lg_sl ([.ref (a 0), .int x1, .int x2]) ++ List.replicate (3 - (lg_sl ([.ref (a 0), .int x1, .int x2])).length) Slot.unset).toArray = ls at hl ⊢
  exact b_main _ _ _ hP hD hS hl

set_option maxRecDepth 100000 in
set_option maxHeartbeats 4000000 in
theorem m_X6_order  {x1 : Int32} {x2 : Int32} {u u' : Mem} {r : Int32}  (hF : F_X6_order  u x1 x2 = some (r, u')) : MC l D cc a tU adK adV yX6_order cX6_order 5 (some .int) 4 90 [.ref (a 0), .int x1, .int x2] u (some (.int r)) u' := by
  refine MM.ofW (by decide) (fun p e s m below meth c S hr hlocks hK hEs hP hD hS => ?_)
  have S : CallFix p m c cX6_order 5 s _ gtbl RX6 := S
  obtain ⟨hx, hb, hml, hown, hts⟩ := id S
  have b51 : ∀  (u : Mem) (v3 : Int32) (y0 : Int32) , F_X6_order_51  u v3 y0 = some (r, u') → BW p l e s m below meth c 4 90 [.ref (a 0), .int x1, .int x2] D (AC a) (some (.int r)) (wlC cc a u') 5 (wlC cc a u) 51 [(3, .int v3)] [.int y0] := by
    intro  u v3 y0 hF H locs ls hP hD hS hl
    unfold F_X6_order_51 at hF
    refine lv_istore (lv' := [(4, .int _), (3, .int _)]) hx hb dX6_order_51 hl (by decide) rfl (fun ls hl => ?_)
    refine lv_iload_n hx hb dX6_order_53 rfl (lv_at hl 1 rfl) ?_
    refine lv_iload hx hb dX6_order_54 (lv_at hl 0 rfl) ?_
    refine lv_iadd hx hb dX6_order_56 ?_
    obtain ⟨rfl, rfl⟩ := sp_eq hF
    exact retI S hr hlocks hP hD hS dX6_order_57
  have b33 : ∀  (u : Mem) (v1 : Int32) (v2 : Int32) (y0 : Int32) , F_X6_order_33  u v1 v2 y0 = some (r, u') → BW p l e s m below meth c 4 90 [.ref (a 0), .int x1, .int x2] D (AC a) (some (.int r)) (wlC cc a u') 5 (wlC cc a u) 33 [(0, .ref (a 0)), (1, .int v1), (2, .int v2)] [.int y0] := by
    intro  u v1 v2 y0 hF H locs ls hP hD hS hl
    unfold F_X6_order_33 at hF
    refine lv_istore_n (lv' := [(3, .int _), (0, .ref _), (1, .int _), (2, .int _)]) hx hb dX6_order_33 rfl hl (by decide) rfl (fun ls hl => ?_)
    refine lv_aload_n hx hb dX6_order_34 rfl (lv_at hl 1 rfl) ?_
    refine va_get_w S hK hP _ c_SP rfl igX6 0 (by decide) q259 rfl rfl dX6_order_35 ?_
    refine lv_iload_n hx hb dX6_order_38 rfl (lv_at hl 3 rfl) ?_
    refine lv_iload_n hx hb dX6_order_39 rfl (lv_at hl 2 rfl) ?_
    obtain ⟨r2, u1, e3, hF⟩ := bdI_some hF
    refine MM.callVi (m_X0_canBe ⟨by decide, by decide⟩ e3) k_X6_145 S ecOK hEs hK ⟨by decide, by decide⟩ (va_recv hK hP rfl (c_AR ⟨by decide, by decide⟩)) rfl rfl hl.1 (Nat.le_of_ble_eq_true rfl) dX6_order_40 ⟨Nat.le_refl _, Nat.le_refl _⟩ hP hD hS (fun H locs hP hD hS => ?_)
    refine lv_if_eq (tgt := 50) hx hb dX6_order_43 (by decide) (fun c4 => ?_) (fun c4 => ?_)
    · have hF := ite_t hF c4
      refine lv_iconst (v := 0) hx hb dX6_order_50 (by decide) ?_
      exact b51 _ _ _  hF H locs ls hP hD hS (lv_sub hl [0] rfl)
    · have hF := ite_f hF c4
      refine lv_iconst (v := 2) hx hb dX6_order_46 (by decide) ?_
      refine lv_goto (tgt := 51) hx hb dX6_order_47 (by decide) ?_
      exact b51 _ _ _  hF H locs ls hP hD hS (lv_sub hl [0] rfl)
  unfold F_X6_order at hF
  have b_main : BW p l e s m below meth c 4 90 [.ref (a 0), .int x1, .int x2] D (AC a) (some (.int r)) (wlC cc a u') 5 (wlC cc a u) 0 [(0, .ref (a 0)), (1, .int x1), (2, .int x2)] [] := by
    intro H locs ls hP hD hS hl
    refine lv_aload_n hx hb dX6_order_0 rfl (lv_at hl 0 rfl) ?_
    refine lv_iload_n hx hb dX6_order_1 rfl (lv_at hl 1 rfl) ?_
    refine lv_iload_n hx hb dX6_order_2 rfl (lv_at hl 2 rfl) ?_
    obtain ⟨r6, u5, e7, hF⟩ := bdI_some hF
    refine MM.callVi (m_X6_areTwo e7) k_X6_142 S ecOK hEs hK ⟨by decide, by decide⟩ (va_recv hK hP rfl c_SP) rfl rfl hl.1 (Nat.le_of_ble_eq_true rfl) dX6_order_3 ⟨Nat.le_refl _, Nat.le_refl _⟩ hP hD hS (fun H locs hP hD hS => ?_)
    refine lv_if_ne (tgt := 16) hx hb dX6_order_6 (by decide) (fun c8 => ?_) (fun c8 => ?_)
    · have hF := ite_f hF c8
      refine lv_aload_n hx hb dX6_order_16 rfl (lv_at hl 0 rfl) ?_
      refine va_get_w S hK hP _ c_SP rfl igX6 0 (by decide) q259 rfl rfl dX6_order_17 ?_
      refine lv_iload_n hx hb dX6_order_20 rfl (lv_at hl 1 rfl) ?_
      refine lv_iload_n hx hb dX6_order_21 rfl (lv_at hl 2 rfl) ?_
      obtain ⟨r10, u9, e11, hF⟩ := bdI_some hF
      refine MM.callVi (m_X0_canBe ⟨by decide, by decide⟩ e11) k_X6_145 S ecOK hEs hK ⟨by decide, by decide⟩ (va_recv hK hP rfl (c_AR ⟨by decide, by decide⟩)) rfl rfl hl.1 (Nat.le_of_ble_eq_true rfl) dX6_order_22 ⟨Nat.le_refl _, Nat.le_refl _⟩ hP hD hS (fun H locs hP hD hS => ?_)
      refine lv_if_eq (tgt := 32) hx hb dX6_order_25 (by decide) (fun c12 => ?_) (fun c12 => ?_)
      · have hF := ite_t hF c12
        refine lv_iconst (v := 0) hx hb dX6_order_32 (by decide) ?_
        exact b33 _ _ _ _  hF H locs ls hP hD hS (lv_sub hl [0, 1, 2] rfl)
      · have hF := ite_f hF c12
        refine lv_iconst (v := 1) hx hb dX6_order_28 (by decide) ?_
        refine lv_goto (tgt := 33) hx hb dX6_order_29 (by decide) ?_
        exact b33 _ _ _ _  hF H locs ls hP hD hS (lv_sub hl [0, 1, 2] rfl)
    · have hF := ite_t hF c8
      refine lv_aload_n hx hb dX6_order_9 rfl (lv_at hl 0 rfl) ?_
      refine lv_ldc hx hb hown (hts _ q291) dX6_order_10 ?_
      obtain ⟨r14, u13, e15, hF⟩ := bdI_some hF
      refine MM.callVi (m_X6_found e15) k_X6_64 S ecOK hEs hK ⟨by decide, by decide⟩ (va_recv hK hP rfl c_SP) rfl rfl hl.1 (Nat.le_of_ble_eq_true rfl) dX6_order_12 ⟨Nat.le_refl _, Nat.le_refl _⟩ hP hD hS (fun H locs hP hD hS => ?_)
      obtain ⟨rfl, rfl⟩ := sp_eq hF
      exact retI S hr hlocks hP hD hS dX6_order_15
  have hl := lv_entry ([.ref (a 0), .int x1, .int x2]) (n := 5) (Nat.le_of_ble_eq_true rfl)
  rw [lg_entry_eq]
  generalize (lg_sl ([.ref (a 0), .int x1, .int x2]) ++ List.replicate (5 - (lg_sl ([.ref (a 0), .int x1, .int x2])).length) Slot.unset).toArray = ls at hl ⊢
  exact b_main _ _ _ hP hD hS hl

set_option maxRecDepth 100000 in
set_option maxHeartbeats 4000000 in
theorem m_X6_alike  {x1 : Int32} {x2 : Int32} {u u' : Mem} {r : Int32}  (hF : F_X6_alike  u x1 x2 = some (r, u')) : MC l D cc a tU adK adV yX6_alike cX6_alike 5 (some .int) 2 43 [.ref (a 0), .int x1, .int x2] u (some (.int r)) u' := by
  refine MM.ofW (by decide) (fun p e s m below meth c S hr hlocks hK hEs hP hD hS => ?_)
  have S : CallFix p m c cX6_alike 5 s _ gtbl RX6 := S
  obtain ⟨hx, hb, hml, hown, hts⟩ := id S
  unfold F_X6_alike at hF
  have b_main : BW p l e s m below meth c 2 43 [.ref (a 0), .int x1, .int x2] D (AC a) (some (.int r)) (wlC cc a u') 5 (wlC cc a u) 0 [(0, .ref (a 0)), (1, .int x1), (2, .int x2)] [] := by
    intro H locs ls hP hD hS hl
    refine lv_aload_n hx hb dX6_alike_0 rfl (lv_at hl 0 rfl) ?_
    refine lv_iload_n hx hb dX6_alike_1 rfl (lv_at hl 1 rfl) ?_
    refine lv_iload_n hx hb dX6_alike_2 rfl (lv_at hl 2 rfl) ?_
    obtain ⟨r2, u1, e3, hF⟩ := bdI_some hF
    refine MM.callVi (m_X6_areTwo e3) k_X6_142 S ecOK hEs hK ⟨by decide, by decide⟩ (va_recv hK hP rfl c_SP) rfl rfl hl.1 (Nat.le_of_ble_eq_true rfl) dX6_alike_3 ⟨Nat.le_refl _, Nat.le_refl _⟩ hP hD hS (fun H locs hP hD hS => ?_)
    refine lv_if_ne (tgt := 16) hx hb dX6_alike_6 (by decide) (fun c4 => ?_) (fun c4 => ?_)
    · have hF := ite_f hF c4
      refine lv_aload_n hx hb dX6_alike_16 rfl (lv_at hl 0 rfl) ?_
      refine va_get_w S hK hP _ c_SP rfl igX6 0 (by decide) q259 rfl rfl dX6_alike_17 ?_
      refine va_get_w S hK hP _ (c_AR ⟨by decide, by decide⟩) rfl igX0 0 (by decide) q135 rfl rfl dX6_alike_20 ?_
      refine lv_iload_n hx hb dX6_alike_23 rfl (lv_at hl 1 rfl) ?_
      obtain ⟨hin5, hF⟩ := gd_some hF
      have hp6 := r_PR (t := 1) ⟨by decide, by decide⟩ hin5
      refine cPald S hK hP ⟨by decide, by decide⟩ hin5 dX6_alike_24 ?_
      refine lv_astore_n (lv' := [(3, .ref _), (0, .ref _), (1, .int _), (2, .int _)]) hx hb dX6_alike_25 rfl hl (by decide) rfl (fun ls hl => ?_)
      refine lv_aload_n hx hb dX6_alike_26 rfl (lv_at hl 1 rfl) ?_
      refine va_get_w S hK hP _ c_SP rfl igX6 0 (by decide) q259 rfl rfl dX6_alike_27 ?_
      refine va_get_w S hK hP _ (c_AR ⟨by decide, by decide⟩) rfl igX0 0 (by decide) q135 rfl rfl dX6_alike_30 ?_
      refine lv_iload_n hx hb dX6_alike_33 rfl (lv_at hl 3 rfl) ?_
      obtain ⟨hin7, hF⟩ := gd_some hF
      have hp8 := r_PR (t := 1) ⟨by decide, by decide⟩ hin7
      refine cPald S hK hP ⟨by decide, by decide⟩ hin7 dX6_alike_34 ?_
      refine lv_astore (lv' := [(4, .ref _), (3, .ref _), (0, .ref _), (1, .int _), (2, .int _)]) hx hb dX6_alike_35 hl (by decide) rfl (fun ls hl => ?_)
      refine lv_aload_n hx hb dX6_alike_37 rfl (lv_at hl 1 rfl) ?_
      obtain ⟨r10, u9, e11, hF⟩ := bdL_some hF
      refine MM.callVl (m_X1_shown hp6 e11) k_X6_103 S ecOK hEs hK ⟨by decide, by decide⟩ (va_recv hK hP rfl (c_PR hp6)) rfl rfl hl.1 (Nat.le_of_ble_eq_true rfl) dX6_alike_38 ⟨Nat.le_refl _, Nat.le_refl _⟩ hP hD hS (fun H locs hP hD hS => ?_)
      refine lv_aload hx hb dX6_alike_41 (lv_at hl 0 rfl) ?_
      obtain ⟨r13, u12, e14, hF⟩ := bdL_some hF
      refine MM.callVl (m_X1_shown hp8 e14) k_X6_103 S ecOK hEs hK ⟨by decide, by decide⟩ (va_recv hK hP rfl (c_PR hp8)) rfl rfl hl.1 (Nat.le_of_ble_eq_true rfl) dX6_alike_43 ⟨Nat.le_refl _, Nat.le_refl _⟩ hP hD hS (fun H locs hP hD hS => ?_)
      refine lv_land hx hb dX6_alike_46 ?_
      refine lv_aload_n hx hb dX6_alike_47 rfl (lv_at hl 1 rfl) ?_
      obtain ⟨r16, u15, e17, hF⟩ := bdL_some hF
      refine MM.callVl (m_X1_bare hp6 e17) k_X6_148 S ecOK hEs hK ⟨by decide, by decide⟩ (va_recv hK hP rfl (c_PR hp6)) rfl rfl hl.1 (Nat.le_of_ble_eq_true rfl) dX6_alike_48 ⟨Nat.le_refl _, Nat.le_refl _⟩ hP hD hS (fun H locs hP hD hS => ?_)
      refine lv_aload hx hb dX6_alike_51 (lv_at hl 0 rfl) ?_
      obtain ⟨r19, u18, e20, hF⟩ := bdL_some hF
      refine MM.callVl (m_X1_bare hp8 e20) k_X6_148 S ecOK hEs hK ⟨by decide, by decide⟩ (va_recv hK hP rfl (c_PR hp8)) rfl rfl hl.1 (Nat.le_of_ble_eq_true rfl) dX6_alike_53 ⟨Nat.le_refl _, Nat.le_refl _⟩ hP hD hS (fun H locs hP hD hS => ?_)
      refine lv_land hx hb dX6_alike_56 ?_
      refine lv_lor hx hb dX6_alike_57 ?_
      obtain ⟨r22, u21, e23, hF⟩ := bdI_some hF
      refine MM.callSi (m_J13_bitCount_95d88 e23) k_X6_107 S ecOK hEs hK ⟨by decide, by decide⟩ rfl rfl hl.1 (Nat.le_of_ble_eq_true rfl) dX6_alike_58 ⟨Nat.le_refl _, Nat.le_refl _⟩ hP hD hS (fun H locs hP hD hS => ?_)
      obtain ⟨rfl, rfl⟩ := sp_eq hF
      exact retI S hr hlocks hP hD hS dX6_alike_61
    · have hF := ite_t hF c4
      refine lv_aload_n hx hb dX6_alike_9 rfl (lv_at hl 0 rfl) ?_
      refine lv_ldc hx hb hown (hts _ q291) dX6_alike_10 ?_
      obtain ⟨r25, u24, e26, hF⟩ := bdI_some hF
      refine MM.callVi (m_X6_found e26) k_X6_64 S ecOK hEs hK ⟨by decide, by decide⟩ (va_recv hK hP rfl c_SP) rfl rfl hl.1 (Nat.le_of_ble_eq_true rfl) dX6_alike_12 ⟨Nat.le_refl _, Nat.le_refl _⟩ hP hD hS (fun H locs hP hD hS => ?_)
      obtain ⟨rfl, rfl⟩ := sp_eq hF
      exact retI S hr hlocks hP hD hS dX6_alike_15
  have hl := lv_entry ([.ref (a 0), .int x1, .int x2]) (n := 5) (Nat.le_of_ble_eq_true rfl)
  rw [lg_entry_eq]
  generalize (lg_sl ([.ref (a 0), .int x1, .int x2]) ++ List.replicate (5 - (lg_sl ([.ref (a 0), .int x1, .int x2])).length) Slot.unset).toArray = ls at hl ⊢
  exact b_main _ _ _ hP hD hS hl

set_option maxRecDepth 100000 in
set_option maxHeartbeats 4000000 in
theorem m_X6_slackFor  {x1 : Int32} {x2 : Int32} {u u' : Mem} {r : Int32}  (hF : F_X6_slackFor  u x1 x2 = some (r, u')) : MC l D cc a tU adK adV yX6_slackFor cX6_slackFor 4 (some .int) 3 64 [.ref (a 0), .int x1, .int x2] u (some (.int r)) u' := by
  refine MM.ofW (by decide) (fun p e s m below meth c S hr hlocks hK hEs hP hD hS => ?_)
  have S : CallFix p m c cX6_slackFor 4 s _ gtbl RX6 := S
  obtain ⟨hx, hb, hml, hown, hts⟩ := id S
  have b74 : ∀  (u : Mem) (y0 : Int32) , F_X6_slackFor_74  u y0 = some (r, u') → BW p l e s m below meth c 3 64 [.ref (a 0), .int x1, .int x2] D (AC a) (some (.int r)) (wlC cc a u') 4 (wlC cc a u) 74 [] [.int y0] := by
    intro  u y0 hF H locs ls hP hD hS hl
    unfold F_X6_slackFor_74 at hF
    obtain ⟨rfl, rfl⟩ := sp_eq hF
    exact retI S hr hlocks hP hD hS dX6_slackFor_74
  have b47 : ∀  (u : Mem) (v1 : Int32) (v2 : Int32) , F_X6_slackFor_47  u v1 v2 = some (r, u') → BW p l e s m below meth c 3 64 [.ref (a 0), .int x1, .int x2] D (AC a) (some (.int r)) (wlC cc a u') 4 (wlC cc a u) 47 [(0, .ref (a 0)), (1, .int v1), (2, .int v2)] [] := by
    intro  u v1 v2 hF H locs ls hP hD hS hl
    unfold F_X6_slackFor_47 at hF
    refine lv_aload_n hx hb dX6_slackFor_47 rfl (lv_at hl 0 rfl) ?_
    refine va_get_w S hK hP _ c_SP rfl igX6 0 (by decide) q259 rfl rfl dX6_slackFor_48 ?_
    refine lv_iload_n hx hb dX6_slackFor_51 rfl (lv_at hl 1 rfl) ?_
    refine lv_iload_n hx hb dX6_slackFor_52 rfl (lv_at hl 2 rfl) ?_
    obtain ⟨r2, u1, e3, hF⟩ := bdI_some hF
    refine MM.callVi (m_X0_widthGap ⟨by decide, by decide⟩ e3) k_X6_155 S ecOK hEs hK ⟨by decide, by decide⟩ (va_recv hK hP rfl (c_AR ⟨by decide, by decide⟩)) rfl rfl hl.1 (Nat.le_of_ble_eq_true rfl) dX6_slackFor_53 ⟨Nat.le_refl _, Nat.le_refl _⟩ hP hD hS (fun H locs hP hD hS => ?_)
    refine lv_istore_n (lv' := [(3, .int _), (0, .ref _), (1, .int _), (2, .int _)]) hx hb dX6_slackFor_56 rfl hl (by decide) rfl (fun ls hl => ?_)
    refine lv_iload_n hx hb dX6_slackFor_57 rfl (lv_at hl 0 rfl) ?_
    obtain ⟨r5, u4, e6, hF⟩ := bdI_some hF
    refine MM.callSi (m_X6_isSlack e6) k_X6_136 S ecOK hEs hK ⟨by decide, by decide⟩ rfl rfl hl.1 (Nat.le_of_ble_eq_true rfl) dX6_slackFor_58 ⟨Nat.le_refl _, Nat.le_refl _⟩ hP hD hS (fun H locs hP hD hS => ?_)
    refine lv_if_eq (tgt := 68) hx hb dX6_slackFor_61 (by decide) (fun c7 => ?_) (fun c7 => ?_)
    · have hF := ite_t hF c7
      refine lv_aload_n hx hb dX6_slackFor_68 rfl (lv_at hl 1 rfl) ?_
      refine lv_ldc hx hb hown (hts _ q436) dX6_slackFor_69 ?_
      obtain ⟨r9, u8, e10, hF⟩ := bdI_some hF
      refine MM.callVi (m_X6_found e10) k_X6_64 S ecOK hEs hK ⟨by decide, by decide⟩ (va_recv hK hP rfl c_SP) rfl rfl hl.1 (Nat.le_of_ble_eq_true rfl) dX6_slackFor_71 ⟨Nat.le_refl _, Nat.le_refl _⟩ hP hD hS (fun H locs hP hD hS => ?_)
      exact b74 _ _  hF H locs ls hP hD hS (lv_sub hl [] rfl)
    · have hF := ite_f hF c7
      refine lv_iload_n hx hb dX6_slackFor_64 rfl (lv_at hl 0 rfl) ?_
      refine lv_goto (tgt := 74) hx hb dX6_slackFor_65 (by decide) ?_
      exact b74 _ _  hF H locs ls hP hD hS (lv_sub hl [] rfl)
  unfold F_X6_slackFor at hF
  have b_main : BW p l e s m below meth c 3 64 [.ref (a 0), .int x1, .int x2] D (AC a) (some (.int r)) (wlC cc a u') 4 (wlC cc a u) 0 [(0, .ref (a 0)), (1, .int x1), (2, .int x2)] [] := by
    intro H locs ls hP hD hS hl
    refine lv_aload_n hx hb dX6_slackFor_0 rfl (lv_at hl 0 rfl) ?_
    refine lv_iload_n hx hb dX6_slackFor_1 rfl (lv_at hl 1 rfl) ?_
    refine lv_iload_n hx hb dX6_slackFor_2 rfl (lv_at hl 2 rfl) ?_
    obtain ⟨r12, u11, e13, hF⟩ := bdI_some hF
    refine MM.callVi (m_X6_areTwo e13) k_X6_142 S ecOK hEs hK ⟨by decide, by decide⟩ (va_recv hK hP rfl c_SP) rfl rfl hl.1 (Nat.le_of_ble_eq_true rfl) dX6_slackFor_3 ⟨Nat.le_refl _, Nat.le_refl _⟩ hP hD hS (fun H locs hP hD hS => ?_)
    refine lv_if_ne (tgt := 16) hx hb dX6_slackFor_6 (by decide) (fun c14 => ?_) (fun c14 => ?_)
    · have hF := ite_f hF c14
      refine lv_aload_n hx hb dX6_slackFor_16 rfl (lv_at hl 0 rfl) ?_
      refine va_get_w S hK hP _ c_SP rfl igX6 0 (by decide) q259 rfl rfl dX6_slackFor_17 ?_
      refine lv_iload_n hx hb dX6_slackFor_20 rfl (lv_at hl 1 rfl) ?_
      refine lv_iload_n hx hb dX6_slackFor_21 rfl (lv_at hl 2 rfl) ?_
      obtain ⟨r16, u15, e17, hF⟩ := bdI_some hF
      refine MM.callVi (m_X0_marksAllow ⟨by decide, by decide⟩ e17) k_X6_151 S ecOK hEs hK ⟨by decide, by decide⟩ (va_recv hK hP rfl (c_AR ⟨by decide, by decide⟩)) rfl rfl hl.1 (Nat.le_of_ble_eq_true rfl) dX6_slackFor_22 ⟨Nat.le_refl _, Nat.le_refl _⟩ hP hD hS (fun H locs hP hD hS => ?_)
      refine lv_if_ne (tgt := 47) hx hb dX6_slackFor_25 (by decide) (fun c18 => ?_) (fun c18 => ?_)
      · have hF := ite_f hF c18
        exact b47 _ _ _  hF H locs ls hP hD hS (lv_sub hl [0, 1, 2] rfl)
      · have hF := ite_t hF c18
        refine lv_aload_n hx hb dX6_slackFor_28 rfl (lv_at hl 0 rfl) ?_
        refine va_get_w S hK hP _ c_SP rfl igX6 0 (by decide) q259 rfl rfl dX6_slackFor_29 ?_
        refine lv_iload_n hx hb dX6_slackFor_32 rfl (lv_at hl 2 rfl) ?_
        refine lv_iload_n hx hb dX6_slackFor_33 rfl (lv_at hl 1 rfl) ?_
        obtain ⟨r20, u19, e21, hF⟩ := bdI_some hF
        refine MM.callVi (m_X0_marksAllow ⟨by decide, by decide⟩ e21) k_X6_151 S ecOK hEs hK ⟨by decide, by decide⟩ (va_recv hK hP rfl (c_AR ⟨by decide, by decide⟩)) rfl rfl hl.1 (Nat.le_of_ble_eq_true rfl) dX6_slackFor_34 ⟨Nat.le_refl _, Nat.le_refl _⟩ hP hD hS (fun H locs hP hD hS => ?_)
        refine lv_if_ne (tgt := 47) hx hb dX6_slackFor_37 (by decide) (fun c22 => ?_) (fun c22 => ?_)
        · have hF := ite_f hF c22
          exact b47 _ _ _  hF H locs ls hP hD hS (lv_sub hl [0, 1, 2] rfl)
        · have hF := ite_t hF c22
          refine lv_aload_n hx hb dX6_slackFor_40 rfl (lv_at hl 0 rfl) ?_
          refine lv_ldc hx hb hown (hts _ q436) dX6_slackFor_41 ?_
          obtain ⟨r24, u23, e25, hF⟩ := bdI_some hF
          refine MM.callVi (m_X6_found e25) k_X6_64 S ecOK hEs hK ⟨by decide, by decide⟩ (va_recv hK hP rfl c_SP) rfl rfl hl.1 (Nat.le_of_ble_eq_true rfl) dX6_slackFor_43 ⟨Nat.le_refl _, Nat.le_refl _⟩ hP hD hS (fun H locs hP hD hS => ?_)
          obtain ⟨rfl, rfl⟩ := sp_eq hF
          exact retI S hr hlocks hP hD hS dX6_slackFor_46
    · have hF := ite_t hF c14
      refine lv_aload_n hx hb dX6_slackFor_9 rfl (lv_at hl 0 rfl) ?_
      refine lv_ldc hx hb hown (hts _ q291) dX6_slackFor_10 ?_
      obtain ⟨r27, u26, e28, hF⟩ := bdI_some hF
      refine MM.callVi (m_X6_found e28) k_X6_64 S ecOK hEs hK ⟨by decide, by decide⟩ (va_recv hK hP rfl c_SP) rfl rfl hl.1 (Nat.le_of_ble_eq_true rfl) dX6_slackFor_12 ⟨Nat.le_refl _, Nat.le_refl _⟩ hP hD hS (fun H locs hP hD hS => ?_)
      obtain ⟨rfl, rfl⟩ := sp_eq hF
      exact retI S hr hlocks hP hD hS dX6_slackFor_15
  have hl := lv_entry ([.ref (a 0), .int x1, .int x2]) (n := 4) (Nat.le_of_ble_eq_true rfl)
  rw [lg_entry_eq]
  generalize (lg_sl ([.ref (a 0), .int x1, .int x2]) ++ List.replicate (4 - (lg_sl ([.ref (a 0), .int x1, .int x2])).length) Slot.unset).toArray = ls at hl ⊢
  exact b_main _ _ _ hP hD hS hl

set_option maxRecDepth 100000 in
set_option maxHeartbeats 4000000 in
theorem m_X6_came  {x1 : Int32} {x2 : Int32} {u u' : Mem} {r : Int32}  (hF : F_X6_came  u x1 x2 = some (r, u')) : MC l D cc a tU adK adV yX6_came cX6_came 3 (some .int) 4 90 [.ref (a 0), .int x1, .int x2] u (some (.int r)) u' := by
  refine MM.ofW (by decide) (fun p e s m below meth c S hr hlocks hK hEs hP hD hS => ?_)
  have S : CallFix p m c cX6_came 3 s _ gtbl RX6 := S
  obtain ⟨hx, hb, hml, hown, hts⟩ := id S
  unfold F_X6_came at hF
  have b_main : BW p l e s m below meth c 4 90 [.ref (a 0), .int x1, .int x2] D (AC a) (some (.int r)) (wlC cc a u') 3 (wlC cc a u) 0 [(0, .ref (a 0)), (1, .int x1), (2, .int x2)] [] := by
    intro H locs ls hP hD hS hl
    refine lv_aload_n hx hb dX6_came_0 rfl (lv_at hl 0 rfl) ?_
    refine lv_iload_n hx hb dX6_came_1 rfl (lv_at hl 1 rfl) ?_
    refine lv_iload_n hx hb dX6_came_2 rfl (lv_at hl 2 rfl) ?_
    obtain ⟨r2, u1, e3, hF⟩ := bdI_some hF
    refine MM.callVi (m_X6_areTwo e3) k_X6_142 S ecOK hEs hK ⟨by decide, by decide⟩ (va_recv hK hP rfl c_SP) rfl rfl hl.1 (Nat.le_of_ble_eq_true rfl) dX6_came_3 ⟨Nat.le_refl _, Nat.le_refl _⟩ hP hD hS (fun H locs hP hD hS => ?_)
    refine lv_if_ne (tgt := 16) hx hb dX6_came_6 (by decide) (fun c4 => ?_) (fun c4 => ?_)
    · have hF := ite_f hF c4
      refine lv_aload_n hx hb dX6_came_16 rfl (lv_at hl 0 rfl) ?_
      refine va_get_w S hK hP _ c_SP rfl igX6 0 (by decide) q259 rfl rfl dX6_came_17 ?_
      refine lv_iload_n hx hb dX6_came_20 rfl (lv_at hl 1 rfl) ?_
      refine lv_iload_n hx hb dX6_came_21 rfl (lv_at hl 2 rfl) ?_
      obtain ⟨r6, u5, e7, hF⟩ := bdI_some hF
      refine MM.callVi (m_X0_canBe ⟨by decide, by decide⟩ e7) k_X6_145 S ecOK hEs hK ⟨by decide, by decide⟩ (va_recv hK hP rfl (c_AR ⟨by decide, by decide⟩)) rfl rfl hl.1 (Nat.le_of_ble_eq_true rfl) dX6_came_22 ⟨Nat.le_refl _, Nat.le_refl _⟩ hP hD hS (fun H locs hP hD hS => ?_)
      refine lv_if_ne (tgt := 35) hx hb dX6_came_25 (by decide) (fun c8 => ?_) (fun c8 => ?_)
      · have hF := ite_f hF c8
        refine lv_aload_n hx hb dX6_came_35 rfl (lv_at hl 0 rfl) ?_
        refine va_get_w S hK hP _ c_SP rfl igX6 0 (by decide) q259 rfl rfl dX6_came_36 ?_
        refine va_get_w S hK hP _ (c_AR ⟨by decide, by decide⟩) rfl igX0 0 (by decide) q135 rfl rfl dX6_came_39 ?_
        refine lv_iload_n hx hb dX6_came_42 rfl (lv_at hl 2 rfl) ?_
        obtain ⟨hin9, hF⟩ := gd_some hF
        have hp10 := r_PR (t := 1) ⟨by decide, by decide⟩ hin9
        refine cPald S hK hP ⟨by decide, by decide⟩ hin9 dX6_came_43 ?_
        obtain ⟨r12, u11, e13, hF⟩ := bdL_some hF
        refine MM.callVl (m_X1_shown hp10 e13) k_X6_103 S ecOK hEs hK ⟨by decide, by decide⟩ (va_recv hK hP rfl (c_PR hp10)) rfl rfl hl.1 (Nat.le_of_ble_eq_true rfl) dX6_came_44 ⟨Nat.le_refl _, Nat.le_refl _⟩ hP hD hS (fun H locs hP hD hS => ?_)
        refine lv_aload_n hx hb dX6_came_47 rfl (lv_at hl 0 rfl) ?_
        refine va_get_w S hK hP _ c_SP rfl igX6 0 (by decide) q259 rfl rfl dX6_came_48 ?_
        refine va_get_w S hK hP _ (c_AR ⟨by decide, by decide⟩) rfl igX0 0 (by decide) q135 rfl rfl dX6_came_51 ?_
        refine lv_iload_n hx hb dX6_came_54 rfl (lv_at hl 1 rfl) ?_
        obtain ⟨hin14, hF⟩ := gd_some hF
        have hp15 := r_PR (t := 1) ⟨by decide, by decide⟩ hin14
        refine cPald S hK hP ⟨by decide, by decide⟩ hin14 dX6_came_55 ?_
        obtain ⟨r17, u16, e18, hF⟩ := bdL_some hF
        refine MM.callVl (m_X1_bare hp15 e18) k_X6_148 S ecOK hEs hK ⟨by decide, by decide⟩ (va_recv hK hP rfl (c_PR hp15)) rfl rfl hl.1 (Nat.le_of_ble_eq_true rfl) dX6_came_56 ⟨Nat.le_refl _, Nat.le_refl _⟩ hP hD hS (fun H locs hP hD hS => ?_)
        refine lv_land hx hb dX6_came_59 ?_
        obtain ⟨r20, u19, e21, hF⟩ := bdI_some hF
        refine MM.callSi (m_J13_bitCount_95d88 e21) k_X6_107 S ecOK hEs hK ⟨by decide, by decide⟩ rfl rfl hl.1 (Nat.le_of_ble_eq_true rfl) dX6_came_60 ⟨Nat.le_refl _, Nat.le_refl _⟩ hP hD hS (fun H locs hP hD hS => ?_)
        obtain ⟨rfl, rfl⟩ := sp_eq hF
        exact retI S hr hlocks hP hD hS dX6_came_63
      · have hF := ite_t hF c8
        refine lv_aload_n hx hb dX6_came_28 rfl (lv_at hl 0 rfl) ?_
        refine lv_ldc hx hb hown (hts _ q442) dX6_came_29 ?_
        obtain ⟨r23, u22, e24, hF⟩ := bdI_some hF
        refine MM.callVi (m_X6_found e24) k_X6_64 S ecOK hEs hK ⟨by decide, by decide⟩ (va_recv hK hP rfl c_SP) rfl rfl hl.1 (Nat.le_of_ble_eq_true rfl) dX6_came_31 ⟨Nat.le_refl _, Nat.le_refl _⟩ hP hD hS (fun H locs hP hD hS => ?_)
        obtain ⟨rfl, rfl⟩ := sp_eq hF
        exact retI S hr hlocks hP hD hS dX6_came_34
    · have hF := ite_t hF c4
      refine lv_aload_n hx hb dX6_came_9 rfl (lv_at hl 0 rfl) ?_
      refine lv_ldc hx hb hown (hts _ q291) dX6_came_10 ?_
      obtain ⟨r26, u25, e27, hF⟩ := bdI_some hF
      refine MM.callVi (m_X6_found e27) k_X6_64 S ecOK hEs hK ⟨by decide, by decide⟩ (va_recv hK hP rfl c_SP) rfl rfl hl.1 (Nat.le_of_ble_eq_true rfl) dX6_came_12 ⟨Nat.le_refl _, Nat.le_refl _⟩ hP hD hS (fun H locs hP hD hS => ?_)
      obtain ⟨rfl, rfl⟩ := sp_eq hF
      exact retI S hr hlocks hP hD hS dX6_came_15
  have hl := lv_entry ([.ref (a 0), .int x1, .int x2]) (n := 3) (Nat.le_of_ble_eq_true rfl)
  rw [lg_entry_eq]
  generalize (lg_sl ([.ref (a 0), .int x1, .int x2]) ++ List.replicate (3 - (lg_sl ([.ref (a 0), .int x1, .int x2])).length) Slot.unset).toArray = ls at hl ⊢
  exact b_main _ _ _ hP hD hS hl

set_option maxRecDepth 100000 in
set_option maxHeartbeats 4000000 in
theorem m_X0_hasAll {x0 : Nat} {x1 : Int32} {u u' : Mem} {r : Int32} (hx0 : 1 ≤ x0 ∧ x0 ≤ 3) (hF : F_X0_hasAll x0 u x1 = some (r, u')) : MC l D cc a tU adK adV yX0_hasAll cX0_hasAll 2 (some .boolean) 0 0 [.ref (a (x0 + 3)), .int x1] u (some (.int r)) u' := by
  refine MM.ofW (by decide) (fun p e s m below meth c S hr hlocks hK hEs hP hD hS => ?_)
  have S : CallFix p m c cX0_hasAll 2 s _ gtbl RX0 := S
  obtain ⟨hx, hb, hml, hown, hts⟩ := id S
  have b17 : ∀  (u : Mem) (y0 : Int32) , F_X0_hasAll_17  u y0 = some (r, u') → BW p l e s m below meth c 0 0 [.ref (a (x0 + 3)), .int x1] D (AC a) (some (.int r)) (wlC cc a u') 2 (wlC cc a u) 17 [] [.int y0] := by
    intro  u y0 hF H locs ls hP hD hS hl
    unfold F_X0_hasAll_17 at hF
    obtain ⟨hz1, hF⟩ := gz_some hF
    obtain ⟨rfl, rfl⟩ := sp_eq hF
    exact retZ S hr hlocks hP hD hS hz1 dX0_hasAll_17
  unfold F_X0_hasAll at hF
  have b_main : BW p l e s m below meth c 0 0 [.ref (a (x0 + 3)), .int x1] D (AC a) (some (.int r)) (wlC cc a u') 2 (wlC cc a u) 0 [(0, .ref (a (x0 + 3))), (1, .int x1)] [] := by
    intro H locs ls hP hD hS hl
    refine lv_iload_n hx hb dX0_hasAll_0 rfl (lv_at hl 1 rfl) ?_
    refine lv_iconst (v := 1) hx hb dX0_hasAll_1 (by decide) ?_
    refine lv_aload_n hx hb dX0_hasAll_2 rfl (lv_at hl 0 rfl) ?_
    refine va_get_w S hK hP _ (c_AR hx0) rfl igX0 1 (by decide) q138 rfl rfl dX0_hasAll_3 ?_
    refine lv_ishl hx hb dX0_hasAll_6 ?_
    refine lv_ineg hx hb dX0_hasAll_7 ?_
    refine lv_iand hx hb dX0_hasAll_8 ?_
    refine lv_if_ne (tgt := 16) hx hb dX0_hasAll_9 (by decide) (fun c2 => ?_) (fun c2 => ?_)
    · have hF := ite_f hF c2
      refine lv_iconst (v := 0) hx hb dX0_hasAll_16 (by decide) ?_
      exact b17 _ _  hF H locs ls hP hD hS (lv_sub hl [] rfl)
    · have hF := ite_t hF c2
      refine lv_iconst (v := 1) hx hb dX0_hasAll_12 (by decide) ?_
      refine lv_goto (tgt := 17) hx hb dX0_hasAll_13 (by decide) ?_
      exact b17 _ _  hF H locs ls hP hD hS (lv_sub hl [] rfl)
  have hl := lv_entry ([.ref (a (x0 + 3)), .int x1]) (n := 2) (Nat.le_of_ble_eq_true rfl)
  rw [lg_entry_eq]
  generalize (lg_sl ([.ref (a (x0 + 3)), .int x1]) ++ List.replicate (2 - (lg_sl ([.ref (a (x0 + 3)), .int x1])).length) Slot.unset).toArray = ls at hl ⊢
  exact b_main _ _ _ hP hD hS hl

set_option maxRecDepth 100000 in
set_option maxHeartbeats 4000000 in
theorem m_X0_isEarlier {x0 : Nat} {x1 : Int32} {x2 : Int32} {u u' : Mem} {r : Int32} (hx0 : 1 ≤ x0 ∧ x0 ≤ 3) (hF : F_X0_isEarlier x0 u x1 x2 = some (r, u')) : MC l D cc a tU adK adV yX0_isEarlier cX0_isEarlier 5 (some .boolean) 0 0 [.ref (a (x0 + 3)), .int x1, .int x2] u (some (.int r)) u' := by
  refine MM.ofW (by decide) (fun p e s m below meth c S hr hlocks hK hEs hP hD hS => ?_)
  have S : CallFix p m c cX0_isEarlier 5 s _ gtbl RX0 := S
  obtain ⟨hx, hb, hml, hown, hts⟩ := id S
  have b43 : ∀  (u : Mem) (y0 : Int32) , F_X0_isEarlier_43  u y0 = some (r, u') → BW p l e s m below meth c 0 0 [.ref (a (x0 + 3)), .int x1, .int x2] D (AC a) (some (.int r)) (wlC cc a u') 5 (wlC cc a u) 43 [] [.int y0] := by
    intro  u y0 hF H locs ls hP hD hS hl
    unfold F_X0_isEarlier_43 at hF
    obtain ⟨hz1, hF⟩ := gz_some hF
    obtain ⟨rfl, rfl⟩ := sp_eq hF
    exact retZ S hr hlocks hP hD hS hz1 dX0_isEarlier_43
  have b38 : ∀  (u : Mem)  , F_X0_isEarlier_38  u  = some (r, u') → BW p l e s m below meth c 0 0 [.ref (a (x0 + 3)), .int x1, .int x2] D (AC a) (some (.int r)) (wlC cc a u') 5 (wlC cc a u) 38 [] [] := by
    intro  u  hF H locs ls hP hD hS hl
    unfold F_X0_isEarlier_38 at hF
    refine lv_iconst (v := 1) hx hb dX0_isEarlier_38 (by decide) ?_
    refine lv_goto (tgt := 43) hx hb dX0_isEarlier_39 (by decide) ?_
    exact b43 _ _  hF H locs ls hP hD hS (lv_sub hl [] rfl)
  have b42 : ∀  (u : Mem)  , F_X0_isEarlier_42  u  = some (r, u') → BW p l e s m below meth c 0 0 [.ref (a (x0 + 3)), .int x1, .int x2] D (AC a) (some (.int r)) (wlC cc a u') 5 (wlC cc a u) 42 [] [] := by
    intro  u  hF H locs ls hP hD hS hl
    unfold F_X0_isEarlier_42 at hF
    refine lv_iconst (v := 0) hx hb dX0_isEarlier_42 (by decide) ?_
    exact b43 _ _  hF H locs ls hP hD hS (lv_sub hl [] rfl)
  unfold F_X0_isEarlier at hF
  have b_main : BW p l e s m below meth c 0 0 [.ref (a (x0 + 3)), .int x1, .int x2] D (AC a) (some (.int r)) (wlC cc a u') 5 (wlC cc a u) 0 [(0, .ref (a (x0 + 3))), (1, .int x1), (2, .int x2)] [] := by
    intro H locs ls hP hD hS hl
    refine lv_aload_n hx hb dX0_isEarlier_0 rfl (lv_at hl 0 rfl) ?_
    refine va_get_w S hK hP _ (c_AR hx0) rfl igX0 0 (by decide) q134 rfl rfl dX0_isEarlier_1 ?_
    refine lv_iload_n hx hb dX0_isEarlier_4 rfl (lv_at hl 1 rfl) ?_
    obtain ⟨hin2, hF⟩ := gd_some hF
    have hp3 := r_PR (t := x0) hx0 hin2
    refine cPald S hK hP hx0 hin2 dX0_isEarlier_5 ?_
    refine va_get_w S hK hP _ (c_PR hp3) rfl igX1 2 (by decide) q112 rfl rfl dX0_isEarlier_6 ?_
    refine lv_istore_n (lv' := [(3, .int _), (0, .ref _), (1, .int _), (2, .int _)]) hx hb dX0_isEarlier_9 rfl hl (by decide) rfl (fun ls hl => ?_)
    refine lv_aload_n hx hb dX0_isEarlier_10 rfl (lv_at hl 1 rfl) ?_
    refine va_get_w S hK hP _ (c_AR hx0) rfl igX0 0 (by decide) q134 rfl rfl dX0_isEarlier_11 ?_
    refine lv_iload_n hx hb dX0_isEarlier_14 rfl (lv_at hl 3 rfl) ?_
    obtain ⟨hin4, hF⟩ := gd_some hF
    have hp5 := r_PR (t := x0) hx0 hin4
    refine cPald S hK hP hx0 hin4 dX0_isEarlier_15 ?_
    refine va_get_w S hK hP _ (c_PR hp5) rfl igX1 2 (by decide) q112 rfl rfl dX0_isEarlier_16 ?_
    refine lv_istore (lv' := [(4, .int _), (3, .int _), (0, .ref _), (1, .int _), (2, .int _)]) hx hb dX0_isEarlier_19 hl (by decide) rfl (fun ls hl => ?_)
    refine lv_iload_n hx hb dX0_isEarlier_21 rfl (lv_at hl 1 rfl) ?_
    refine lv_iload hx hb dX0_isEarlier_22 (lv_at hl 0 rfl) ?_
    refine lv_icmp_lt (tgt := 38) hx hb dX0_isEarlier_24 (by decide) (fun c6 => ?_) (fun c6 => ?_)
    · have hF := ite_t hF c6
      exact b38 _  hF H locs ls hP hD hS (lv_sub hl [] rfl)
    · have hF := ite_f hF c6
      refine lv_iload_n hx hb dX0_isEarlier_27 rfl (lv_at hl 1 rfl) ?_
      refine lv_iload hx hb dX0_isEarlier_28 (lv_at hl 0 rfl) ?_
      refine lv_icmp_ne (tgt := 42) hx hb dX0_isEarlier_30 (by decide) (fun c7 => ?_) (fun c7 => ?_)
      · have hF := ite_f hF c7
        exact b42 _  hF H locs ls hP hD hS (lv_sub hl [] rfl)
      · have hF := ite_t hF c7
        refine lv_iload_n hx hb dX0_isEarlier_33 rfl (lv_at hl 3 rfl) ?_
        refine lv_iload_n hx hb dX0_isEarlier_34 rfl (lv_at hl 4 rfl) ?_
        refine lv_icmp_ge (tgt := 42) hx hb dX0_isEarlier_35 (by decide) (fun c8 => ?_) (fun c8 => ?_)
        · have hF := ite_t hF c8
          exact b42 _  hF H locs ls hP hD hS (lv_sub hl [] rfl)
        · have hF := ite_f hF c8
          exact b38 _  hF H locs ls hP hD hS (lv_sub hl [] rfl)
  have hl := lv_entry ([.ref (a (x0 + 3)), .int x1, .int x2]) (n := 5) (Nat.le_of_ble_eq_true rfl)
  rw [lg_entry_eq]
  generalize (lg_sl ([.ref (a (x0 + 3)), .int x1, .int x2]) ++ List.replicate (5 - (lg_sl ([.ref (a (x0 + 3)), .int x1, .int x2])).length) Slot.unset).toArray = ls at hl ⊢
  exact b_main _ _ _ hP hD hS hl

set_option maxRecDepth 100000 in
set_option maxHeartbeats 4000000 in
theorem m_X2_note  {x0 : Nat} {x1 : Int32} {x2 : Int32} {x3 : Int32} {u u' : Mem} (hx0 : kdC x0 = 8 ∧ x0 < 64) (hF : F_X2_note  u x0 x1 x2 x3 = some u') : MC l D cc a tU adK adV yX2_note cX2_note 5 none 0 0 [.ref (a x0), .int x1, .int x2, .int x3] u none u' := by
  refine MM.ofW (by decide) (fun p e s m below meth c S hr hlocks hK hEs hP hD hS => ?_)
  have S : CallFix p m c cX2_note 5 s _ gtbl RX2 := S
  obtain ⟨hx, hb, hml, hown, hts⟩ := id S
  have b28 : ∀  (u : Mem) (y0 : Nat) (y1 : Int32) (y2 : Int32) (hy0 : kdC y0 = 8 ∧ y0 < 64), F_X2_note_28  u y0 y1 y2 = some u' → BW p l e s m below meth c 0 0 [.ref (a x0), .int x1, .int x2, .int x3] D (AC a) none (wlC cc a u') 5 (wlC cc a u) 28 [] [.int y2, .int y1, .ref (a y0)] := by
    intro  u y0 y1 y2 hy0 hF H locs ls hP hD hS hl
    unfold F_X2_note_28 at hF
    obtain ⟨hin1, hF⟩ := gd_some hF
    refine cIast S hK hP hD hS hy0 rfl hin1 dX2_note_28 (fun H locs hP hD hS => ?_)
    obtain rfl := sv_eq hF
    exact retV S hr hlocks hP hD hS dX2_note_29
  unfold F_X2_note at hF
  have b_main : BW p l e s m below meth c 0 0 [.ref (a x0), .int x1, .int x2, .int x3] D (AC a) none (wlC cc a u') 5 (wlC cc a u) 0 [(0, .ref (a x0)), (1, .int x1), (2, .int x2), (3, .int x3)] [] := by
    intro H locs ls hP hD hS hl
    refine lv_iconst (v := 1) hx hb dX2_note_0 (by decide) ?_
    refine lv_iload_n hx hb dX2_note_1 rfl (lv_at hl 2 rfl) ?_
    refine lv_ishl hx hb dX2_note_2 ?_
    refine lv_istore (lv' := [(4, .int _), (0, .ref _), (1, .int _), (2, .int _), (3, .int _)]) hx hb dX2_note_3 hl (by decide) rfl (fun ls hl => ?_)
    refine lv_aload_n hx hb dX2_note_5 rfl (lv_at hl 1 rfl) ?_
    refine lv_iload_n hx hb dX2_note_6 rfl (lv_at hl 2 rfl) ?_
    refine lv_iload_n hx hb dX2_note_7 rfl (lv_at hl 4 rfl) ?_
    refine lv_if_eq (tgt := 20) hx hb dX2_note_8 (by decide) (fun c2 => ?_) (fun c2 => ?_)
    · have hF := ite_t hF c2
      refine lv_aload_n hx hb dX2_note_20 rfl (lv_at hl 1 rfl) ?_
      refine lv_iload_n hx hb dX2_note_21 rfl (lv_at hl 2 rfl) ?_
      obtain ⟨hin3, hF⟩ := gd_some hF
      refine cIald S hK hP hx0 rfl hin3 dX2_note_22 ?_
      refine lv_iload hx hb dX2_note_23 (lv_at hl 0 rfl) ?_
      refine lv_iconst (v := -1) hx hb dX2_note_25 (by decide) ?_
      refine lv_ixor hx hb dX2_note_26 ?_
      refine lv_iand hx hb dX2_note_27 ?_
      exact b28 _ _ _ _ hx0 hF H locs ls hP hD hS (lv_sub hl [] rfl)
    · have hF := ite_f hF c2
      refine lv_aload_n hx hb dX2_note_11 rfl (lv_at hl 1 rfl) ?_
      refine lv_iload_n hx hb dX2_note_12 rfl (lv_at hl 2 rfl) ?_
      obtain ⟨hin4, hF⟩ := gd_some hF
      refine cIald S hK hP hx0 rfl hin4 dX2_note_13 ?_
      refine lv_iload hx hb dX2_note_14 (lv_at hl 0 rfl) ?_
      refine lv_ior hx hb dX2_note_16 ?_
      refine lv_goto (tgt := 28) hx hb dX2_note_17 (by decide) ?_
      exact b28 _ _ _ _ hx0 hF H locs ls hP hD hS (lv_sub hl [] rfl)
  have hl := lv_entry ([.ref (a x0), .int x1, .int x2, .int x3]) (n := 5) (Nat.le_of_ble_eq_true rfl)
  rw [lg_entry_eq]
  generalize (lg_sl ([.ref (a x0), .int x1, .int x2, .int x3]) ++ List.replicate (5 - (lg_sl ([.ref (a x0), .int x1, .int x2, .int x3])).length) Slot.unset).toArray = ls at hl ⊢
  exact b_main _ _ _ hP hD hS hl

set_option maxRecDepth 100000 in
set_option maxHeartbeats 4000000 in
theorem m_X2_weighPair  {x1 : Int32} {x2 : Int32} {u u' : Mem}  (hF : F_X2_weighPair  u x1 x2 = some u') : MC l D cc a tU adK adV yX2_weighPair cX2_weighPair 7 none 3 68 [.ref (a 7), .int x1, .int x2] u none u' := by
  refine MM.ofW (by decide) (fun p e s m below meth c S hr hlocks hK hEs hP hD hS => ?_)
  have S : CallFix p m c cX2_weighPair 7 s _ gtbl RX2 := S
  obtain ⟨hx, hb, hml, hown, hts⟩ := id S
  have b75 : ∀  (u : Mem) (v1 : Int32) (v2 : Int32) (v4 : Int32) (v5 : Int32) (y0 : Int32) , F_X2_weighPair_75  u v1 v2 v4 v5 y0 = some u' → BW p l e s m below meth c 3 68 [.ref (a 7), .int x1, .int x2] D (AC a) none (wlC cc a u') 7 (wlC cc a u) 75 [(0, .ref (a 7)), (1, .int v1), (2, .int v2), (4, .int v4), (5, .int v5)] [.int y0] := by
    intro  u v1 v2 v4 v5 y0 hF H locs ls hP hD hS hl
    unfold F_X2_weighPair_75 at hF
    refine lv_istore (lv' := [(6, .int _), (0, .ref _), (1, .int _), (2, .int _), (4, .int _), (5, .int _)]) hx hb dX2_weighPair_75 hl (by decide) rfl (fun ls hl => ?_)
    refine lv_aload_n hx hb dX2_weighPair_77 rfl (lv_at hl 1 rfl) ?_
    refine va_get_w S hK hP _ c_RI rfl igX2 1 (by decide) q159 rfl rfl dX2_weighPair_78 ?_
    refine lv_iload_n hx hb dX2_weighPair_81 rfl (lv_at hl 2 rfl) ?_
    refine lv_iload_n hx hb dX2_weighPair_82 rfl (lv_at hl 3 rfl) ?_
    refine lv_iload hx hb dX2_weighPair_83 (lv_at hl 4 rfl) ?_
    obtain ⟨u1, e3, hF⟩ := bdV_some hF
    refine MM.callSv (m_X2_note ⟨rfl, by decide⟩ e3) k_X2_57 S ecOK hEs hK ⟨by decide, by decide⟩ rfl rfl hl.1 (Nat.le_of_ble_eq_true rfl) dX2_weighPair_85 ⟨Nat.le_refl _, Nat.le_refl _⟩ hP hD hS (fun H locs hP hD hS => ?_)
    refine lv_aload_n hx hb dX2_weighPair_88 rfl (lv_at hl 1 rfl) ?_
    refine va_get_w S hK hP _ c_RI rfl igX2 1 (by decide) q159 rfl rfl dX2_weighPair_89 ?_
    refine lv_iload_n hx hb dX2_weighPair_92 rfl (lv_at hl 3 rfl) ?_
    refine lv_iload_n hx hb dX2_weighPair_93 rfl (lv_at hl 2 rfl) ?_
    refine lv_iload hx hb dX2_weighPair_94 (lv_at hl 5 rfl) ?_
    obtain ⟨u4, e6, hF⟩ := bdV_some hF
    refine MM.callSv (m_X2_note ⟨rfl, by decide⟩ e6) k_X2_57 S ecOK hEs hK ⟨by decide, by decide⟩ rfl rfl hl.1 (Nat.le_of_ble_eq_true rfl) dX2_weighPair_96 ⟨Nat.le_refl _, Nat.le_refl _⟩ hP hD hS (fun H locs hP hD hS => ?_)
    refine lv_aload_n hx hb dX2_weighPair_99 rfl (lv_at hl 1 rfl) ?_
    refine va_get_w S hK hP _ c_RI rfl igX2 2 (by decide) q160 rfl rfl dX2_weighPair_100 ?_
    refine lv_iload_n hx hb dX2_weighPair_103 rfl (lv_at hl 2 rfl) ?_
    refine lv_iload_n hx hb dX2_weighPair_104 rfl (lv_at hl 3 rfl) ?_
    refine lv_iload hx hb dX2_weighPair_105 (lv_at hl 0 rfl) ?_
    obtain ⟨u7, e9, hF⟩ := bdV_some hF
    refine MM.callSv (m_X2_note ⟨rfl, by decide⟩ e9) k_X2_57 S ecOK hEs hK ⟨by decide, by decide⟩ rfl rfl hl.1 (Nat.le_of_ble_eq_true rfl) dX2_weighPair_107 ⟨Nat.le_refl _, Nat.le_refl _⟩ hP hD hS (fun H locs hP hD hS => ?_)
    refine lv_aload_n hx hb dX2_weighPair_110 rfl (lv_at hl 1 rfl) ?_
    refine va_get_w S hK hP _ c_RI rfl igX2 2 (by decide) q160 rfl rfl dX2_weighPair_111 ?_
    refine lv_iload_n hx hb dX2_weighPair_114 rfl (lv_at hl 3 rfl) ?_
    refine lv_iload_n hx hb dX2_weighPair_115 rfl (lv_at hl 2 rfl) ?_
    refine lv_iload hx hb dX2_weighPair_116 (lv_at hl 0 rfl) ?_
    obtain ⟨u10, e12, hF⟩ := bdV_some hF
    refine MM.callSv (m_X2_note ⟨rfl, by decide⟩ e12) k_X2_57 S ecOK hEs hK ⟨by decide, by decide⟩ rfl rfl hl.1 (Nat.le_of_ble_eq_true rfl) dX2_weighPair_118 ⟨Nat.le_refl _, Nat.le_refl _⟩ hP hD hS (fun H locs hP hD hS => ?_)
    obtain rfl := sv_eq hF
    exact retV S hr hlocks hP hD hS dX2_weighPair_121
  have b54 : ∀  (u : Mem) (v1 : Int32) (v2 : Int32) (v4 : Int32) (y0 : Int32) , F_X2_weighPair_54  u v1 v2 v4 y0 = some u' → BW p l e s m below meth c 3 68 [.ref (a 7), .int x1, .int x2] D (AC a) none (wlC cc a u') 7 (wlC cc a u) 54 [(0, .ref (a 7)), (1, .int v1), (2, .int v2), (4, .int v4)] [.int y0] := by
    intro  u v1 v2 v4 y0 hF H locs ls hP hD hS hl
    unfold F_X2_weighPair_54 at hF
    refine lv_istore (lv' := [(5, .int _), (0, .ref _), (1, .int _), (2, .int _), (4, .int _)]) hx hb dX2_weighPair_54 hl (by decide) rfl (fun ls hl => ?_)
    refine lv_aload_n hx hb dX2_weighPair_56 rfl (lv_at hl 1 rfl) ?_
    refine va_get_w S hK hP _ c_RI rfl igX2 0 (by decide) q158 rfl rfl dX2_weighPair_57 ?_
    refine lv_iload_n hx hb dX2_weighPair_60 rfl (lv_at hl 2 rfl) ?_
    refine lv_iload_n hx hb dX2_weighPair_61 rfl (lv_at hl 3 rfl) ?_
    obtain ⟨r14, u13, e15, hF⟩ := bdI_some hF
    refine MM.callVi (m_X0_isEarlier ⟨by decide, by decide⟩ e15) k_X2_54 S ecOK hEs hK ⟨by decide, by decide⟩ (va_recv hK hP rfl (c_AR ⟨by decide, by decide⟩)) rfl rfl hl.1 (Nat.le_of_ble_eq_true rfl) dX2_weighPair_62 ⟨Nat.le_refl _, Nat.le_refl _⟩ hP hD hS (fun H locs hP hD hS => ?_)
    refine lv_if_eq (tgt := 73) hx hb dX2_weighPair_65 (by decide) (fun c16 => ?_) (fun c16 => ?_)
    · have hF := ite_t hF c16
      refine lv_iload hx hb dX2_weighPair_73 (lv_at hl 0 rfl) ?_
      exact b75 _ _ _ _ _ _  hF H locs ls hP hD hS (lv_sub hl [1, 2, 3, 4, 0] rfl)
    · have hF := ite_f hF c16
      refine lv_iload hx hb dX2_weighPair_68 (lv_at hl 4 rfl) ?_
      refine lv_goto (tgt := 75) hx hb dX2_weighPair_70 (by decide) ?_
      exact b75 _ _ _ _ _ _  hF H locs ls hP hD hS (lv_sub hl [1, 2, 3, 4, 0] rfl)
  have b53 : ∀  (u : Mem) (v1 : Int32) (v2 : Int32) (v4 : Int32) , F_X2_weighPair_53  u v1 v2 v4 = some u' → BW p l e s m below meth c 3 68 [.ref (a 7), .int x1, .int x2] D (AC a) none (wlC cc a u') 7 (wlC cc a u) 53 [(0, .ref (a 7)), (1, .int v1), (2, .int v2), (4, .int v4)] [] := by
    intro  u v1 v2 v4 hF H locs ls hP hD hS hl
    unfold F_X2_weighPair_53 at hF
    refine lv_iconst (v := 0) hx hb dX2_weighPair_53 (by decide) ?_
    exact b54 _ _ _ _ _  hF H locs ls hP hD hS (lv_sub hl [0, 1, 2, 3] rfl)
  have b31 : ∀  (u : Mem) (v1 : Int32) (v2 : Int32) (v3 : Int32) (y0 : Int32) , F_X2_weighPair_31  u v1 v2 v3 y0 = some u' → BW p l e s m below meth c 3 68 [.ref (a 7), .int x1, .int x2] D (AC a) none (wlC cc a u') 7 (wlC cc a u) 31 [(0, .ref (a 7)), (1, .int v1), (2, .int v2), (3, .int v3)] [.int y0] := by
    intro  u v1 v2 v3 y0 hF H locs ls hP hD hS hl
    unfold F_X2_weighPair_31 at hF
    refine lv_istore (lv' := [(4, .int _), (0, .ref _), (1, .int _), (2, .int _), (3, .int _)]) hx hb dX2_weighPair_31 hl (by decide) rfl (fun ls hl => ?_)
    refine lv_iload_n hx hb dX2_weighPair_33 rfl (lv_at hl 4 rfl) ?_
    refine lv_if_eq (tgt := 53) hx hb dX2_weighPair_34 (by decide) (fun c17 => ?_) (fun c17 => ?_)
    · have hF := ite_t hF c17
      exact b53 _ _ _ _  hF H locs ls hP hD hS (lv_sub hl [1, 2, 3, 0] rfl)
    · have hF := ite_f hF c17
      refine lv_aload_n hx hb dX2_weighPair_37 rfl (lv_at hl 1 rfl) ?_
      refine va_get_w S hK hP _ c_RI rfl igX2 0 (by decide) q158 rfl rfl dX2_weighPair_38 ?_
      refine lv_iload_n hx hb dX2_weighPair_41 rfl (lv_at hl 3 rfl) ?_
      refine lv_iload_n hx hb dX2_weighPair_42 rfl (lv_at hl 2 rfl) ?_
      obtain ⟨r19, u18, e20, hF⟩ := bdI_some hF
      refine MM.callVi (m_X0_marksAllow ⟨by decide, by decide⟩ e20) k_X2_51 S ecOK hEs hK ⟨by decide, by decide⟩ (va_recv hK hP rfl (c_AR ⟨by decide, by decide⟩)) rfl rfl hl.1 (Nat.le_of_ble_eq_true rfl) dX2_weighPair_43 ⟨Nat.le_refl _, Nat.le_refl _⟩ hP hD hS (fun H locs hP hD hS => ?_)
      refine lv_if_eq (tgt := 53) hx hb dX2_weighPair_46 (by decide) (fun c21 => ?_) (fun c21 => ?_)
      · have hF := ite_t hF c21
        exact b53 _ _ _ _  hF H locs ls hP hD hS (lv_sub hl [1, 2, 3, 0] rfl)
      · have hF := ite_f hF c21
        refine lv_iconst (v := 1) hx hb dX2_weighPair_49 (by decide) ?_
        refine lv_goto (tgt := 54) hx hb dX2_weighPair_50 (by decide) ?_
        exact b54 _ _ _ _ _  hF H locs ls hP hD hS (lv_sub hl [1, 2, 3, 0] rfl)
  have b30 : ∀  (u : Mem) (v1 : Int32) (v2 : Int32) (v3 : Int32) , F_X2_weighPair_30  u v1 v2 v3 = some u' → BW p l e s m below meth c 3 68 [.ref (a 7), .int x1, .int x2] D (AC a) none (wlC cc a u') 7 (wlC cc a u) 30 [(0, .ref (a 7)), (1, .int v1), (2, .int v2), (3, .int v3)] [] := by
    intro  u v1 v2 v3 hF H locs ls hP hD hS hl
    unfold F_X2_weighPair_30 at hF
    refine lv_iconst (v := 0) hx hb dX2_weighPair_30 (by decide) ?_
    exact b31 _ _ _ _ _  hF H locs ls hP hD hS (lv_sub hl [0, 1, 2, 3] rfl)
  unfold F_X2_weighPair at hF
  have b_main : BW p l e s m below meth c 3 68 [.ref (a 7), .int x1, .int x2] D (AC a) none (wlC cc a u') 7 (wlC cc a u) 0 [(0, .ref (a 7)), (1, .int x1), (2, .int x2)] [] := by
    intro H locs ls hP hD hS hl
    refine lv_aload_n hx hb dX2_weighPair_0 rfl (lv_at hl 0 rfl) ?_
    refine va_get_w S hK hP _ c_RI rfl igX2 0 (by decide) q158 rfl rfl dX2_weighPair_1 ?_
    refine lv_iload_n hx hb dX2_weighPair_4 rfl (lv_at hl 1 rfl) ?_
    refine lv_iload_n hx hb dX2_weighPair_5 rfl (lv_at hl 2 rfl) ?_
    obtain ⟨r23, u22, e24, hF⟩ := bdI_some hF
    refine MM.callVi (m_X0_widthsAllow ⟨by decide, by decide⟩ e24) k_X2_47 S ecOK hEs hK ⟨by decide, by decide⟩ (va_recv hK hP rfl (c_AR ⟨by decide, by decide⟩)) rfl rfl hl.1 (Nat.le_of_ble_eq_true rfl) dX2_weighPair_6 ⟨Nat.le_refl _, Nat.le_refl _⟩ hP hD hS (fun H locs hP hD hS => ?_)
    refine lv_istore_n (lv' := [(3, .int _), (0, .ref _), (1, .int _), (2, .int _)]) hx hb dX2_weighPair_9 rfl hl (by decide) rfl (fun ls hl => ?_)
    refine lv_iload_n hx hb dX2_weighPair_10 rfl (lv_at hl 0 rfl) ?_
    refine lv_if_eq (tgt := 30) hx hb dX2_weighPair_11 (by decide) (fun c25 => ?_) (fun c25 => ?_)
    · have hF := ite_t hF c25
      exact b30 _ _ _ _  hF H locs ls hP hD hS (lv_sub hl [1, 2, 3, 0] rfl)
    · have hF := ite_f hF c25
      refine lv_aload_n hx hb dX2_weighPair_14 rfl (lv_at hl 1 rfl) ?_
      refine va_get_w S hK hP _ c_RI rfl igX2 0 (by decide) q158 rfl rfl dX2_weighPair_15 ?_
      refine lv_iload_n hx hb dX2_weighPair_18 rfl (lv_at hl 2 rfl) ?_
      refine lv_iload_n hx hb dX2_weighPair_19 rfl (lv_at hl 3 rfl) ?_
      obtain ⟨r27, u26, e28, hF⟩ := bdI_some hF
      refine MM.callVi (m_X0_marksAllow ⟨by decide, by decide⟩ e28) k_X2_51 S ecOK hEs hK ⟨by decide, by decide⟩ (va_recv hK hP rfl (c_AR ⟨by decide, by decide⟩)) rfl rfl hl.1 (Nat.le_of_ble_eq_true rfl) dX2_weighPair_20 ⟨Nat.le_refl _, Nat.le_refl _⟩ hP hD hS (fun H locs hP hD hS => ?_)
      refine lv_if_eq (tgt := 30) hx hb dX2_weighPair_23 (by decide) (fun c29 => ?_) (fun c29 => ?_)
      · have hF := ite_t hF c29
        exact b30 _ _ _ _  hF H locs ls hP hD hS (lv_sub hl [1, 2, 3, 0] rfl)
      · have hF := ite_f hF c29
        refine lv_iconst (v := 1) hx hb dX2_weighPair_26 (by decide) ?_
        refine lv_goto (tgt := 31) hx hb dX2_weighPair_27 (by decide) ?_
        exact b31 _ _ _ _ _  hF H locs ls hP hD hS (lv_sub hl [1, 2, 3, 0] rfl)
  have hl := lv_entry ([.ref (a 7), .int x1, .int x2]) (n := 7) (Nat.le_of_ble_eq_true rfl)
  rw [lg_entry_eq]
  generalize (lg_sl ([.ref (a 7), .int x1, .int x2]) ++ List.replicate (7 - (lg_sl ([.ref (a 7), .int x1, .int x2])).length) Slot.unset).toArray = ls at hl ⊢
  exact b_main _ _ _ hP hD hS hl

set_option maxRecDepth 100000 in
set_option maxHeartbeats 4000000 in
theorem m_X2_weigh   {u u' : Mem}  (hF : F_X2_weigh  u  = some u') : MC l D cc a tU adK adV yX2_weigh cX2_weigh 3 none 4 94 [.ref (a 7)] u none u' := by
  refine MM.ofW (by decide) (fun p e s m below meth c S hr hlocks hK hEs hP hD hS => ?_)
  have S : CallFix p m c cX2_weigh 3 s _ gtbl RX2 := S
  obtain ⟨hx, hb, hml, hown, hts⟩ := id S
  have b43 : ∀ (k30 : Mem → Int32 → Option Mem) (hk30 : ∀ (u : Mem) (v1 : Int32) , k30 u v1 = some u' → BW p l e s m below meth c 4 94 [.ref (a 7)] D (AC a) none (wlC cc a u') 3 (wlC cc a u) 30 [(0, .ref (a 7)), (1, .int v1)] []), ∀ (n : Nat) (u : Mem) (v1 : Int32) (v2 : Int32) , F_X2_weigh_43 k30 n u v1 v2 = some u' → BW p l e s m below meth c 4 94 [.ref (a 7)] D (AC a) none (wlC cc a u') 3 (wlC cc a u) 43 [(0, .ref (a 7)), (1, .int v1), (2, .int v2)] [] := by
    intro k30 hk30
    intro n
    induction n with
    | zero => intro u v1 v2 hF; cases hF
    | succ n ih =>
      intro u v1 v2 hF H locs ls hP hD hS hl
      unfold F_X2_weigh_43 at hF
      refine lv_iload_n hx hb dX2_weigh_43 rfl (lv_at hl 2 rfl) ?_
      refine lv_iload_n hx hb dX2_weigh_44 rfl (lv_at hl 1 rfl) ?_
      refine lv_icmp_ge (tgt := 60) hx hb dX2_weigh_45 (by decide) (fun c1 => ?_) (fun c1 => ?_)
      · have hF := ite_t hF c1
        refine lv_inc1 (k := 1) (lv' := [(1, .int _), (0, .ref _), (2, .int _)]) hx hb dX2_weigh_60 hl rfl (by decide) rfl (fun ls hl => ?_)
        refine lv_goto (tgt := 30) hx hb dX2_weigh_63 (by decide) ?_
        exact hk30 _ _  hF H locs ls hP hD hS (lv_sub hl [1, 0] rfl)
      · have hF := ite_f hF c1
        refine lv_aload_n hx hb dX2_weigh_48 rfl (lv_at hl 0 rfl) ?_
        refine lv_iload_n hx hb dX2_weigh_49 rfl (lv_at hl 2 rfl) ?_
        refine lv_iload_n hx hb dX2_weigh_50 rfl (lv_at hl 1 rfl) ?_
        obtain ⟨u2, e4, hF⟩ := bdV_some hF
        refine MM.callVv (m_X2_weighPair e4) k_X2_43 S ecOK hEs hK ⟨by decide, by decide⟩ (va_recv hK hP rfl c_RI) rfl rfl hl.1 (Nat.le_of_ble_eq_true rfl) dX2_weigh_51 ⟨Nat.le_refl _, Nat.le_refl _⟩ hP hD hS (fun H locs hP hD hS => ?_)
        refine lv_inc1 (k := 2) (lv' := [(2, .int _), (0, .ref _), (1, .int _)]) hx hb dX2_weigh_54 hl rfl (by decide) rfl (fun ls hl => ?_)
        refine lv_goto (tgt := 43) hx hb dX2_weigh_57 (by decide) ?_
        exact ih _ _ _  hF H locs ls hP hD hS (lv_sub hl [1, 2, 0] rfl)
  have b30 : ∀ (n : Nat) (u : Mem) (v1 : Int32) , F_X2_weigh_30  n u v1 = some u' → BW p l e s m below meth c 4 94 [.ref (a 7)] D (AC a) none (wlC cc a u') 3 (wlC cc a u) 30 [(0, .ref (a 7)), (1, .int v1)] [] := by
    intro n
    induction n with
    | zero => intro u v1 hF; cases hF
    | succ n ih =>
      intro u v1 hF H locs ls hP hD hS hl
      unfold F_X2_weigh_30 at hF
      refine lv_iload_n hx hb dX2_weigh_30 rfl (lv_at hl 1 rfl) ?_
      refine lv_aload_n hx hb dX2_weigh_31 rfl (lv_at hl 0 rfl) ?_
      refine va_get_w S hK hP _ c_RI rfl igX2 0 (by decide) q158 rfl rfl dX2_weigh_32 ?_
      refine va_get_w S hK hP _ (c_AR ⟨by decide, by decide⟩) rfl igX0 1 (by decide) q139 rfl rfl dX2_weigh_35 ?_
      refine lv_icmp_ge (tgt := 66) hx hb dX2_weigh_38 (by decide) (fun c5 => ?_) (fun c5 => ?_)
      · have hF := ite_t hF c5
        obtain rfl := sv_eq hF
        exact retV S hr hlocks hP hD hS dX2_weigh_66
      · have hF := ite_f hF c5
        refine lv_iconst (v := 0) hx hb dX2_weigh_41 (by decide) ?_
        refine lv_istore_n (lv' := [(2, .int _), (0, .ref _), (1, .int _)]) hx hb dX2_weigh_42 rfl hl (by decide) rfl (fun ls hl => ?_)
        exact b43 _ ih _ _ _ _  hF H locs ls hP hD hS (lv_sub hl [1, 2, 0] rfl)
  have b2 : ∀ (n : Nat) (u : Mem) (v1 : Int32) , F_X2_weigh_2  n u v1 = some u' → BW p l e s m below meth c 4 94 [.ref (a 7)] D (AC a) none (wlC cc a u') 3 (wlC cc a u) 2 [(0, .ref (a 7)), (1, .int v1)] [] := by
    intro n
    induction n with
    | zero => intro u v1 hF; cases hF
    | succ n ih =>
      intro u v1 hF H locs ls hP hD hS hl
      unfold F_X2_weigh_2 at hF
      refine lv_iload_n hx hb dX2_weigh_2 rfl (lv_at hl 1 rfl) ?_
      refine lv_bipush (v := 12) hx hb dX2_weigh_3 (by decide) ?_
      refine lv_icmp_ge (tgt := 28) hx hb dX2_weigh_5 (by decide) (fun c6 => ?_) (fun c6 => ?_)
      · have hF := ite_t hF c6
        refine lv_iconst (v := 1) hx hb dX2_weigh_28 (by decide) ?_
        refine lv_istore_n (lv' := [(1, .int _), (0, .ref _)]) hx hb dX2_weigh_29 rfl hl (by decide) rfl (fun ls hl => ?_)
        exact b30 _ _ _  hF H locs ls hP hD hS (lv_sub hl [1, 0] rfl)
      · have hF := ite_f hF c6
        refine lv_aload_n hx hb dX2_weigh_8 rfl (lv_at hl 0 rfl) ?_
        refine va_get_w S hK hP _ c_RI rfl igX2 1 (by decide) q159 rfl rfl dX2_weigh_9 ?_
        refine lv_iload_n hx hb dX2_weigh_12 rfl (lv_at hl 1 rfl) ?_
        refine lv_iconst (v := 0) hx hb dX2_weigh_13 (by decide) ?_
        obtain ⟨hin7, hF⟩ := gd_some hF
        refine cIast S hK hP hD hS ⟨rfl, by decide⟩ rfl hin7 dX2_weigh_14 (fun H locs hP hD hS => ?_)
        refine lv_aload_n hx hb dX2_weigh_15 rfl (lv_at hl 0 rfl) ?_
        refine va_get_w S hK hP _ c_RI rfl igX2 2 (by decide) q160 rfl rfl dX2_weigh_16 ?_
        refine lv_iload_n hx hb dX2_weigh_19 rfl (lv_at hl 1 rfl) ?_
        refine lv_iconst (v := 0) hx hb dX2_weigh_20 (by decide) ?_
        obtain ⟨hin8, hF⟩ := gd_some hF
        refine cIast S hK hP hD hS ⟨rfl, by decide⟩ rfl hin8 dX2_weigh_21 (fun H locs hP hD hS => ?_)
        obtain ⟨u9, e10, hF⟩ := bdV_some hF
        obtain rfl := sv_eq e10
        refine lv_inc1 (k := 1) (lv' := [(1, .int _), (0, .ref _)]) hx hb dX2_weigh_22 hl rfl (by decide) rfl (fun ls hl => ?_)
        refine lv_goto (tgt := 2) hx hb dX2_weigh_25 (by decide) ?_
        exact ih _ _  hF H locs ls hP hD hS (lv_sub hl [1, 0] rfl)
  unfold F_X2_weigh at hF
  have b_main : BW p l e s m below meth c 4 94 [.ref (a 7)] D (AC a) none (wlC cc a u') 3 (wlC cc a u) 0 [(0, .ref (a 7))] [] := by
    intro H locs ls hP hD hS hl
    refine lv_iconst (v := 0) hx hb dX2_weigh_0 (by decide) ?_
    refine lv_istore_n (lv' := [(1, .int _), (0, .ref _)]) hx hb dX2_weigh_1 rfl hl (by decide) rfl (fun ls hl => ?_)
    exact b2 _ _ _  hF H locs ls hP hD hS (lv_sub hl [1, 0] rfl)
  have hl := lv_entry ([.ref (a 7)]) (n := 3) (Nat.le_of_ble_eq_true rfl)
  rw [lg_entry_eq]
  generalize (lg_sl ([.ref (a 7)]) ++ List.replicate (3 - (lg_sl ([.ref (a 7)])).length) Slot.unset).toArray = ls at hl ⊢
  exact b_main _ _ _ hP hD hS hl

set_option maxRecDepth 100000 in
set_option maxHeartbeats 4000000 in
theorem m_X2_isIn  {x0 : Int32} {x1 : Int32} {u u' : Mem} {r : Int32}  (hF : F_X2_isIn  u x0 x1 = some (r, u')) : MC l D cc a tU adK adV yX2_isIn cX2_isIn 2 (some .boolean) 0 0 [.int x0, .int x1] u (some (.int r)) u' := by
  refine MM.ofW (by decide) (fun p e s m below meth c S hr hlocks hK hEs hP hD hS => ?_)
  have S : CallFix p m c cX2_isIn 2 s _ gtbl RX2 := S
  obtain ⟨hx, hb, hml, hown, hts⟩ := id S
  have b13 : ∀  (u : Mem) (y0 : Int32) , F_X2_isIn_13  u y0 = some (r, u') → BW p l e s m below meth c 0 0 [.int x0, .int x1] D (AC a) (some (.int r)) (wlC cc a u') 2 (wlC cc a u) 13 [] [.int y0] := by
    intro  u y0 hF H locs ls hP hD hS hl
    unfold F_X2_isIn_13 at hF
    obtain ⟨hz1, hF⟩ := gz_some hF
    obtain ⟨rfl, rfl⟩ := sp_eq hF
    exact retZ S hr hlocks hP hD hS hz1 dX2_isIn_13
  unfold F_X2_isIn at hF
  have b_main : BW p l e s m below meth c 0 0 [.int x0, .int x1] D (AC a) (some (.int r)) (wlC cc a u') 2 (wlC cc a u) 0 [(0, .int x0), (1, .int x1)] [] := by
    intro H locs ls hP hD hS hl
    refine lv_iload_n hx hb dX2_isIn_0 rfl (lv_at hl 0 rfl) ?_
    refine lv_iconst (v := 1) hx hb dX2_isIn_1 (by decide) ?_
    refine lv_iload_n hx hb dX2_isIn_2 rfl (lv_at hl 1 rfl) ?_
    refine lv_ishl hx hb dX2_isIn_3 ?_
    refine lv_iand hx hb dX2_isIn_4 ?_
    refine lv_if_eq (tgt := 12) hx hb dX2_isIn_5 (by decide) (fun c2 => ?_) (fun c2 => ?_)
    · have hF := ite_t hF c2
      refine lv_iconst (v := 0) hx hb dX2_isIn_12 (by decide) ?_
      exact b13 _ _  hF H locs ls hP hD hS (lv_sub hl [] rfl)
    · have hF := ite_f hF c2
      refine lv_iconst (v := 1) hx hb dX2_isIn_8 (by decide) ?_
      refine lv_goto (tgt := 13) hx hb dX2_isIn_9 (by decide) ?_
      exact b13 _ _  hF H locs ls hP hD hS (lv_sub hl [] rfl)
  have hl := lv_entry ([.int x0, .int x1]) (n := 2) (Nat.le_of_ble_eq_true rfl)
  rw [lg_entry_eq]
  generalize (lg_sl ([.int x0, .int x1]) ++ List.replicate (2 - (lg_sl ([.int x0, .int x1])).length) Slot.unset).toArray = ls at hl ⊢
  exact b_main _ _ _ hP hD hS hl

set_option maxRecDepth 100000 in
set_option maxHeartbeats 4000000 in
theorem m_X2_without  {x0 : Int32} {x1 : Int32} {u u' : Mem} {r : Int32}  (hF : F_X2_without  u x0 x1 = some (r, u')) : MC l D cc a tU adK adV yX2_without cX2_without 2 (some .int) 0 0 [.int x0, .int x1] u (some (.int r)) u' := by
  refine MM.ofW (by decide) (fun p e s m below meth c S hr hlocks hK hEs hP hD hS => ?_)
  have S : CallFix p m c cX2_without 2 s _ gtbl RX2 := S
  obtain ⟨hx, hb, hml, hown, hts⟩ := id S
  unfold F_X2_without at hF
  have b_main : BW p l e s m below meth c 0 0 [.int x0, .int x1] D (AC a) (some (.int r)) (wlC cc a u') 2 (wlC cc a u) 0 [(0, .int x0), (1, .int x1)] [] := by
    intro H locs ls hP hD hS hl
    refine lv_iload_n hx hb dX2_without_0 rfl (lv_at hl 0 rfl) ?_
    refine lv_iconst (v := 1) hx hb dX2_without_1 (by decide) ?_
    refine lv_iload_n hx hb dX2_without_2 rfl (lv_at hl 1 rfl) ?_
    refine lv_ishl hx hb dX2_without_3 ?_
    refine lv_iconst (v := -1) hx hb dX2_without_4 (by decide) ?_
    refine lv_ixor hx hb dX2_without_5 ?_
    refine lv_iand hx hb dX2_without_6 ?_
    obtain ⟨rfl, rfl⟩ := sp_eq hF
    exact retI S hr hlocks hP hD hS dX2_without_7
  have hl := lv_entry ([.int x0, .int x1]) (n := 2) (Nat.le_of_ble_eq_true rfl)
  rw [lg_entry_eq]
  generalize (lg_sl ([.int x0, .int x1]) ++ List.replicate (2 - (lg_sl ([.int x0, .int x1])).length) Slot.unset).toArray = ls at hl ⊢
  exact b_main _ _ _ hP hD hS hl

set_option maxRecDepth 100000 in
set_option maxHeartbeats 4000000 in
theorem m_X2_isRing  {x1 : Int32} {u u' : Mem} {r : Int32}  (hF : F_X2_isRing  u x1 = some (r, u')) : MC l D cc a tU adK adV yX2_isRing cX2_isRing 3 (some .boolean) 1 21 [.ref (a 7), .int x1] u (some (.int r)) u' := by
  refine MM.ofW (by decide) (fun p e s m below meth c S hr hlocks hK hEs hP hD hS => ?_)
  have S : CallFix p m c cX2_isRing 3 s _ gtbl RX2 := S
  obtain ⟨hx, hb, hml, hown, hts⟩ := id S
  have b40 : ∀ (k2 : Mem → Int32 → Int32 → Option (Int32 × Mem)) (hk2 : ∀ (u : Mem) (v1 : Int32) (v2 : Int32) , k2 u v1 v2 = some (r, u') → BW p l e s m below meth c 1 21 [.ref (a 7), .int x1] D (AC a) (some (.int r)) (wlC cc a u') 3 (wlC cc a u) 2 [(0, .ref (a 7)), (1, .int v1), (2, .int v2)] []) (u : Mem) (v1 : Int32) (v2 : Int32) , F_X2_isRing_40 k2 u v1 v2 = some (r, u') → BW p l e s m below meth c 1 21 [.ref (a 7), .int x1] D (AC a) (some (.int r)) (wlC cc a u') 3 (wlC cc a u) 40 [(0, .ref (a 7)), (1, .int v1), (2, .int v2)] [] := by
    intro k2 hk2 u v1 v2 hF H locs ls hP hD hS hl
    unfold F_X2_isRing_40 at hF
    refine lv_inc1 (k := 2) (lv' := [(2, .int _), (0, .ref _), (1, .int _)]) hx hb dX2_isRing_40 hl rfl (by decide) rfl (fun ls hl => ?_)
    refine lv_goto (tgt := 2) hx hb dX2_isRing_43 (by decide) ?_
    exact hk2 _ _ _  hF H locs ls hP hD hS (lv_sub hl [1, 2, 0] rfl)
  have b2 : ∀ (n : Nat) (u : Mem) (v1 : Int32) (v2 : Int32) , F_X2_isRing_2  n u v1 v2 = some (r, u') → BW p l e s m below meth c 1 21 [.ref (a 7), .int x1] D (AC a) (some (.int r)) (wlC cc a u') 3 (wlC cc a u) 2 [(0, .ref (a 7)), (1, .int v1), (2, .int v2)] [] := by
    intro n
    induction n with
    | zero => intro u v1 v2 hF; cases hF
    | succ n ih =>
      intro u v1 v2 hF H locs ls hP hD hS hl
      unfold F_X2_isRing_2 at hF
      refine lv_iload_n hx hb dX2_isRing_2 rfl (lv_at hl 2 rfl) ?_
      refine lv_aload_n hx hb dX2_isRing_3 rfl (lv_at hl 0 rfl) ?_
      refine va_get_w S hK hP _ c_RI rfl igX2 0 (by decide) q158 rfl rfl dX2_isRing_4 ?_
      refine va_get_w S hK hP _ (c_AR ⟨by decide, by decide⟩) rfl igX0 1 (by decide) q139 rfl rfl dX2_isRing_7 ?_
      refine lv_icmp_ge (tgt := 46) hx hb dX2_isRing_10 (by decide) (fun c1 => ?_) (fun c1 => ?_)
      · have hF := ite_t hF c1
        refine lv_iconst (v := 1) hx hb dX2_isRing_46 (by decide) ?_
        obtain ⟨rfl, rfl⟩ := sp_eq hF
        exact retZ S hr hlocks hP hD hS (by decide) dX2_isRing_47
      · have hF := ite_f hF c1
        refine lv_iload_n hx hb dX2_isRing_13 rfl (lv_at hl 1 rfl) ?_
        refine lv_iload_n hx hb dX2_isRing_14 rfl (lv_at hl 2 rfl) ?_
        obtain ⟨r3, u2, e4, hF⟩ := bdI_some hF
        refine MM.callSi (m_X2_isIn e4) k_X2_61 S ecOK hEs hK ⟨by decide, by decide⟩ rfl rfl hl.1 (Nat.le_of_ble_eq_true rfl) dX2_isRing_15 ⟨Nat.le_refl _, Nat.le_refl _⟩ hP hD hS (fun H locs hP hD hS => ?_)
        refine lv_if_eq (tgt := 40) hx hb dX2_isRing_18 (by decide) (fun c5 => ?_) (fun c5 => ?_)
        · have hF := ite_t hF c5
          exact b40 _ ih _ _ _  hF H locs ls hP hD hS (lv_sub hl [0, 1, 2] rfl)
        · have hF := ite_f hF c5
          refine lv_iload_n hx hb dX2_isRing_21 rfl (lv_at hl 1 rfl) ?_
          refine lv_iload_n hx hb dX2_isRing_22 rfl (lv_at hl 2 rfl) ?_
          obtain ⟨r7, u6, e8, hF⟩ := bdI_some hF
          refine MM.callSi (m_X2_without e8) k_X2_64 S ecOK hEs hK ⟨by decide, by decide⟩ rfl rfl hl.1 (Nat.le_of_ble_eq_true rfl) dX2_isRing_23 ⟨Nat.le_refl _, Nat.le_refl _⟩ hP hD hS (fun H locs hP hD hS => ?_)
          refine lv_aload_n hx hb dX2_isRing_26 rfl (lv_at hl 0 rfl) ?_
          refine va_get_w S hK hP _ c_RI rfl igX2 2 (by decide) q160 rfl rfl dX2_isRing_27 ?_
          refine lv_iload_n hx hb dX2_isRing_30 rfl (lv_at hl 2 rfl) ?_
          obtain ⟨hin9, hF⟩ := gd_some hF
          refine cIald S hK hP ⟨rfl, by decide⟩ rfl hin9 dX2_isRing_31 ?_
          refine lv_iconst (v := -1) hx hb dX2_isRing_32 (by decide) ?_
          refine lv_ixor hx hb dX2_isRing_33 ?_
          refine lv_iand hx hb dX2_isRing_34 ?_
          refine lv_if_eq (tgt := 40) hx hb dX2_isRing_35 (by decide) (fun c10 => ?_) (fun c10 => ?_)
          · have hF := ite_t hF c10
            exact b40 _ ih _ _ _  hF H locs ls hP hD hS (lv_sub hl [0, 1, 2] rfl)
          · have hF := ite_f hF c10
            refine lv_iconst (v := 0) hx hb dX2_isRing_38 (by decide) ?_
            obtain ⟨rfl, rfl⟩ := sp_eq hF
            exact retZ S hr hlocks hP hD hS (by decide) dX2_isRing_39
  unfold F_X2_isRing at hF
  have b_main : BW p l e s m below meth c 1 21 [.ref (a 7), .int x1] D (AC a) (some (.int r)) (wlC cc a u') 3 (wlC cc a u) 0 [(0, .ref (a 7)), (1, .int x1)] [] := by
    intro H locs ls hP hD hS hl
    refine lv_iconst (v := 0) hx hb dX2_isRing_0 (by decide) ?_
    refine lv_istore_n (lv' := [(2, .int _), (0, .ref _), (1, .int _)]) hx hb dX2_isRing_1 rfl hl (by decide) rfl (fun ls hl => ?_)
    exact b2 _ _ _ _  hF H locs ls hP hD hS (lv_sub hl [1, 2, 0] rfl)
  have hl := lv_entry ([.ref (a 7), .int x1]) (n := 3) (Nat.le_of_ble_eq_true rfl)
  rw [lg_entry_eq]
  generalize (lg_sl ([.ref (a 7), .int x1]) ++ List.replicate (3 - (lg_sl ([.ref (a 7), .int x1])).length) Slot.unset).toArray = ls at hl ⊢
  exact b_main _ _ _ hP hD hS hl

set_option maxRecDepth 100000 in
set_option maxHeartbeats 4000000 in
theorem m_X6_ring  {x1 : Int32} {u u' : Mem} {r : Int32}  (hF : F_X6_ring  u x1 = some (r, u')) : MC l D cc a tU adK adV yX6_ring cX6_ring 2 (some .int) 5 116 [.ref (a 0), .int x1] u (some (.int r)) u' := by
  refine MM.ofW (by decide) (fun p e s m below meth c S hr hlocks hK hEs hP hD hS => ?_)
  have S : CallFix p m c cX6_ring 2 s _ gtbl RX6 := S
  obtain ⟨hx, hb, hml, hown, hts⟩ := id S
  have b41 : ∀  (u : Mem) (y0 : Int32) , F_X6_ring_41  u y0 = some (r, u') → BW p l e s m below meth c 5 116 [.ref (a 0), .int x1] D (AC a) (some (.int r)) (wlC cc a u') 2 (wlC cc a u) 41 [] [.int y0] := by
    intro  u y0 hF H locs ls hP hD hS hl
    unfold F_X6_ring_41 at hF
    obtain ⟨rfl, rfl⟩ := sp_eq hF
    exact retI S hr hlocks hP hD hS dX6_ring_41
  unfold F_X6_ring at hF
  have b_main : BW p l e s m below meth c 5 116 [.ref (a 0), .int x1] D (AC a) (some (.int r)) (wlC cc a u') 2 (wlC cc a u) 0 [(0, .ref (a 0)), (1, .int x1)] [] := by
    intro H locs ls hP hD hS hl
    refine lv_aload_n hx hb dX6_ring_0 rfl (lv_at hl 0 rfl) ?_
    refine va_get_w S hK hP _ c_SP rfl igX6 0 (by decide) q259 rfl rfl dX6_ring_1 ?_
    refine lv_iload_n hx hb dX6_ring_4 rfl (lv_at hl 1 rfl) ?_
    obtain ⟨r2, u1, e3, hF⟩ := bdI_some hF
    refine MM.callVi (m_X0_hasAll ⟨by decide, by decide⟩ e3) k_X6_160 S ecOK hEs hK ⟨by decide, by decide⟩ (va_recv hK hP rfl (c_AR ⟨by decide, by decide⟩)) rfl rfl hl.1 (Nat.le_of_ble_eq_true rfl) dX6_ring_5 ⟨Nat.le_refl _, Nat.le_refl _⟩ hP hD hS (fun H locs hP hD hS => ?_)
    refine lv_if_ne (tgt := 18) hx hb dX6_ring_8 (by decide) (fun c4 => ?_) (fun c4 => ?_)
    · have hF := ite_f hF c4
      refine lv_aload_n hx hb dX6_ring_18 rfl (lv_at hl 0 rfl) ?_
      refine va_get_w S hK hP _ c_SP rfl igX6 2 (by decide) q261 rfl rfl dX6_ring_19 ?_
      obtain ⟨u5, e7, hF⟩ := bdV_some hF
      refine MM.callVv (m_X2_weigh e7) k_X6_163 S ecOK hEs hK ⟨by decide, by decide⟩ (va_recv hK hP rfl c_RI) rfl rfl hl.1 (Nat.le_of_ble_eq_true rfl) dX6_ring_22 ⟨Nat.le_refl _, Nat.le_refl _⟩ hP hD hS (fun H locs hP hD hS => ?_)
      refine lv_aload_n hx hb dX6_ring_25 rfl (lv_at hl 0 rfl) ?_
      refine va_get_w S hK hP _ c_SP rfl igX6 2 (by decide) q261 rfl rfl dX6_ring_26 ?_
      refine lv_iload_n hx hb dX6_ring_29 rfl (lv_at hl 1 rfl) ?_
      obtain ⟨r9, u8, e10, hF⟩ := bdI_some hF
      refine MM.callVi (m_X2_isRing e10) k_X6_166 S ecOK hEs hK ⟨by decide, by decide⟩ (va_recv hK hP rfl c_RI) rfl rfl hl.1 (Nat.le_of_ble_eq_true rfl) dX6_ring_30 ⟨Nat.le_refl _, Nat.le_refl _⟩ hP hD hS (fun H locs hP hD hS => ?_)
      refine lv_if_eq (tgt := 40) hx hb dX6_ring_33 (by decide) (fun c11 => ?_) (fun c11 => ?_)
      · have hF := ite_t hF c11
        refine lv_iconst (v := 0) hx hb dX6_ring_40 (by decide) ?_
        exact b41 _ _  hF H locs ls hP hD hS (lv_sub hl [] rfl)
      · have hF := ite_f hF c11
        refine lv_iconst (v := 1) hx hb dX6_ring_36 (by decide) ?_
        refine lv_goto (tgt := 41) hx hb dX6_ring_37 (by decide) ?_
        exact b41 _ _  hF H locs ls hP hD hS (lv_sub hl [] rfl)
    · have hF := ite_t hF c4
      refine lv_aload_n hx hb dX6_ring_11 rfl (lv_at hl 0 rfl) ?_
      refine lv_ldc hx hb hown (hts _ q291) dX6_ring_12 ?_
      obtain ⟨r13, u12, e14, hF⟩ := bdI_some hF
      refine MM.callVi (m_X6_found e14) k_X6_64 S ecOK hEs hK ⟨by decide, by decide⟩ (va_recv hK hP rfl c_SP) rfl rfl hl.1 (Nat.le_of_ble_eq_true rfl) dX6_ring_14 ⟨Nat.le_refl _, Nat.le_refl _⟩ hP hD hS (fun H locs hP hD hS => ?_)
      obtain ⟨rfl, rfl⟩ := sp_eq hF
      exact retI S hr hlocks hP hD hS dX6_ring_17
  have hl := lv_entry ([.ref (a 0), .int x1]) (n := 2) (Nat.le_of_ble_eq_true rfl)
  rw [lg_entry_eq]
  generalize (lg_sl ([.ref (a 0), .int x1]) ++ List.replicate (2 - (lg_sl ([.ref (a 0), .int x1])).length) Slot.unset).toArray = ls at hl ⊢
  exact b_main _ _ _ hP hD hS hl

set_option maxRecDepth 100000 in
set_option maxHeartbeats 4000000 in
theorem m_J6_bitCount_0f7a4  {x0 : Int32} {u u' : Mem} {r : Int32}  (hF : F_J6_bitCount_0f7a4  u x0 = some (r, u')) : MC l D cc a tU adK adV yJ6_bitCount_0f7a4 cJ6_bitCount_0f7a4 1 (some .int) 0 0 [.int x0] u (some (.int r)) u' := by
  refine MM.ofW (by decide) (fun p e s m below meth c S hr hlocks hK hEs hP hD hS => ?_)
  have S : CallFix p m c cJ6_bitCount_0f7a4 1 s _ gtbl RJ6 := S
  obtain ⟨hx, hb, hml, hown, hts⟩ := id S
  unfold F_J6_bitCount_0f7a4 at hF
  have b_main : BW p l e s m below meth c 0 0 [.int x0] D (AC a) (some (.int r)) (wlC cc a u') 1 (wlC cc a u) 0 [(0, .int x0)] [] := by
    intro H locs ls hP hD hS hl
    refine lv_iload_n hx hb dJ6_bitCount_0f7a4_0 rfl (lv_at hl 0 rfl) ?_
    refine lv_iload_n hx hb dJ6_bitCount_0f7a4_1 rfl (lv_at hl 0 rfl) ?_
    refine lv_iconst (v := 1) hx hb dJ6_bitCount_0f7a4_2 (by decide) ?_
    refine lv_iushr hx hb dJ6_bitCount_0f7a4_3 rfl ?_
    refine lv_ldcw hx hb hown (hts _ q493) dJ6_bitCount_0f7a4_4 ?_
    refine lv_iand hx hb dJ6_bitCount_0f7a4_7 ?_
    refine lv_isub hx hb dJ6_bitCount_0f7a4_8 ?_
    refine lv_istore_n (lv' := [(0, .int _)]) hx hb dJ6_bitCount_0f7a4_9 rfl hl (by decide) rfl (fun ls hl => ?_)
    refine lv_iload_n hx hb dJ6_bitCount_0f7a4_10 rfl (lv_at hl 0 rfl) ?_
    refine lv_ldcw hx hb hown (hts _ q494) dJ6_bitCount_0f7a4_11 ?_
    refine lv_iand hx hb dJ6_bitCount_0f7a4_14 ?_
    refine lv_iload_n hx hb dJ6_bitCount_0f7a4_15 rfl (lv_at hl 0 rfl) ?_
    refine lv_iconst (v := 2) hx hb dJ6_bitCount_0f7a4_16 (by decide) ?_
    refine lv_iushr hx hb dJ6_bitCount_0f7a4_17 rfl ?_
    refine lv_ldcw hx hb hown (hts _ q494) dJ6_bitCount_0f7a4_18 ?_
    refine lv_iand hx hb dJ6_bitCount_0f7a4_21 ?_
    refine lv_iadd hx hb dJ6_bitCount_0f7a4_22 ?_
    refine lv_istore_n (lv' := [(0, .int _)]) hx hb dJ6_bitCount_0f7a4_23 rfl hl (by decide) rfl (fun ls hl => ?_)
    refine lv_iload_n hx hb dJ6_bitCount_0f7a4_24 rfl (lv_at hl 0 rfl) ?_
    refine lv_iload_n hx hb dJ6_bitCount_0f7a4_25 rfl (lv_at hl 0 rfl) ?_
    refine lv_iconst (v := 4) hx hb dJ6_bitCount_0f7a4_26 (by decide) ?_
    refine lv_iushr hx hb dJ6_bitCount_0f7a4_27 rfl ?_
    refine lv_iadd hx hb dJ6_bitCount_0f7a4_28 ?_
    refine lv_ldcw hx hb hown (hts _ q495) dJ6_bitCount_0f7a4_29 ?_
    refine lv_iand hx hb dJ6_bitCount_0f7a4_32 ?_
    refine lv_istore_n (lv' := [(0, .int _)]) hx hb dJ6_bitCount_0f7a4_33 rfl hl (by decide) rfl (fun ls hl => ?_)
    refine lv_iload_n hx hb dJ6_bitCount_0f7a4_34 rfl (lv_at hl 0 rfl) ?_
    refine lv_iload_n hx hb dJ6_bitCount_0f7a4_35 rfl (lv_at hl 0 rfl) ?_
    refine lv_bipush (v := 8) hx hb dJ6_bitCount_0f7a4_36 (by decide) ?_
    refine lv_iushr hx hb dJ6_bitCount_0f7a4_38 rfl ?_
    refine lv_iadd hx hb dJ6_bitCount_0f7a4_39 ?_
    refine lv_istore_n (lv' := [(0, .int _)]) hx hb dJ6_bitCount_0f7a4_40 rfl hl (by decide) rfl (fun ls hl => ?_)
    refine lv_iload_n hx hb dJ6_bitCount_0f7a4_41 rfl (lv_at hl 0 rfl) ?_
    refine lv_iload_n hx hb dJ6_bitCount_0f7a4_42 rfl (lv_at hl 0 rfl) ?_
    refine lv_bipush (v := 16) hx hb dJ6_bitCount_0f7a4_43 (by decide) ?_
    refine lv_iushr hx hb dJ6_bitCount_0f7a4_45 rfl ?_
    refine lv_iadd hx hb dJ6_bitCount_0f7a4_46 ?_
    refine lv_istore_n (lv' := [(0, .int _)]) hx hb dJ6_bitCount_0f7a4_47 rfl hl (by decide) rfl (fun ls hl => ?_)
    refine lv_iload_n hx hb dJ6_bitCount_0f7a4_48 rfl (lv_at hl 0 rfl) ?_
    refine lv_bipush (v := 63) hx hb dJ6_bitCount_0f7a4_49 (by decide) ?_
    refine lv_iand hx hb dJ6_bitCount_0f7a4_51 ?_
    obtain ⟨rfl, rfl⟩ := sp_eq hF
    exact retI S hr hlocks hP hD hS dJ6_bitCount_0f7a4_52
  have hl := lv_entry ([.int x0]) (n := 1) (Nat.le_of_ble_eq_true rfl)
  rw [lg_entry_eq]
  generalize (lg_sl ([.int x0]) ++ List.replicate (1 - (lg_sl ([.int x0])).length) Slot.unset).toArray = ls at hl ⊢
  exact b_main _ _ _ hP hD hS hl

set_option maxRecDepth 100000 in
set_option maxHeartbeats 4000000 in
theorem m_X2_seekLargest : ∀ (dd : Nat) {u u' : Mem}  {x1 : Int32} {x2 : Int32} {x3 : Int32}, F_X2_seekLargest dd u x1 x2 x3 = some u' → MC l D cc a tU adK adV yX2_seekLargest cX2_seekLargest 4 none (dd + 2) (23 * dd + 41) [.ref (a 7), .int x1, .int x2, .int x3] u none u' := by
  intro dd
  induction dd with
  | zero => intro u u' x1 x2 x3 hF; cases hF
  | succ dd ih =>
    intro u u' x1 x2 x3 hF
    have hself := @ih
    refine MM.ofW (by decide) (fun p e s m below meth c S hr hlocks hK hEs hP hD hS => ?_)
    have S : CallFix p m c cX2_seekLargest 4 s _ gtbl RX2 := S
    obtain ⟨hx, hb, hml, hown, hts⟩ := id S
    have b27 : ∀ (self : Mem → Int32 → Int32 → Int32 → Option Mem) (hself : ∀ {u u' : Mem} {x1 : Int32} {x2 : Int32} {x3 : Int32}, self u x1 x2 x3 = some u' → MC l D cc a tU adK adV yX2_seekLargest cX2_seekLargest 4 none (dd + 2) (23 * dd + 41) [.ref (a 7), .int x1, .int x2, .int x3] u none u')  (u : Mem) (v1 : Int32) , F_X2_seekLargest_27 self  u v1 = some u' → BW p l e s m below meth c (dd + 1 + 2) (23 * (dd + 1) + 41) [.ref (a 7), .int x1, .int x2, .int x3] D (AC a) none (wlC cc a u') 4 (wlC cc a u) 27 [(0, .ref (a 7)), (1, .int v1)] [] := by
      intro self hself  u v1 hF H locs ls hP hD hS hl
      unfold F_X2_seekLargest_27 at hF
      refine lv_aload_n hx hb dX2_seekLargest_27 rfl (lv_at hl 0 rfl) ?_
      refine lv_iload_n hx hb dX2_seekLargest_28 rfl (lv_at hl 1 rfl) ?_
      refine va_put_w S igX2 tyX2 tyX2_ok nmX2 hK hP hD hS _ c_RI rfl 8 (by decide) q166 rfl rfl (tyX2_ok 8 (by decide)) rfl rfl (Nat.le_of_ble_eq_true rfl) (z_RI (by decide)) dX2_seekLargest_29 (fun H locs hP hD hS => ?_)
      obtain rfl := sv_eq hF
      exact retV S hr hlocks hP hD hS dX2_seekLargest_32
    have b74 : ∀ (self : Mem → Int32 → Int32 → Int32 → Option Mem) (hself : ∀ {u u' : Mem} {x1 : Int32} {x2 : Int32} {x3 : Int32}, self u x1 x2 x3 = some u' → MC l D cc a tU adK adV yX2_seekLargest cX2_seekLargest 4 none (dd + 2) (23 * dd + 41) [.ref (a 7), .int x1, .int x2, .int x3] u none u')  (u : Mem)  , F_X2_seekLargest_74 self  u  = some u' → BW p l e s m below meth c (dd + 1 + 2) (23 * (dd + 1) + 41) [.ref (a 7), .int x1, .int x2, .int x3] D (AC a) none (wlC cc a u') 4 (wlC cc a u) 74 [] [] := by
      intro self hself  u  hF H locs ls hP hD hS hl
      unfold F_X2_seekLargest_74 at hF
      obtain rfl := sv_eq hF
      exact retV S hr hlocks hP hD hS dX2_seekLargest_74
    unfold F_X2_seekLargest at hF
    have b_main : BW p l e s m below meth c (dd + 1 + 2) (23 * (dd + 1) + 41) [.ref (a 7), .int x1, .int x2, .int x3] D (AC a) none (wlC cc a u') 4 (wlC cc a u) 0 [(0, .ref (a 7)), (1, .int x1), (2, .int x2), (3, .int x3)] [] := by
      intro H locs ls hP hD hS hl
      refine lv_iload_n hx hb dX2_seekLargest_0 rfl (lv_at hl 1 rfl) ?_
      refine lv_iload_n hx hb dX2_seekLargest_1 rfl (lv_at hl 2 rfl) ?_
      refine lv_ior hx hb dX2_seekLargest_2 ?_
      obtain ⟨r2, u1, e3, hF⟩ := bdI_some hF
      refine MM.callSi (m_J6_bitCount_0f7a4 e3) k_X2_75 S ecOK hEs hK (by constructor <;> (dsimp only; omega)) rfl rfl hl.1 (Nat.le_of_ble_eq_true rfl) dX2_seekLargest_3 ⟨Nat.le_refl _, Nat.le_refl _⟩ hP hD hS (fun H locs hP hD hS => ?_)
      refine lv_aload_n hx hb dX2_seekLargest_6 rfl (lv_at hl 0 rfl) ?_
      refine va_get_w S hK hP _ c_RI rfl igX2 8 (by decide) q166 rfl rfl dX2_seekLargest_7 ?_
      obtain ⟨r5, u4, e6, hF⟩ := bdI_some hF
      refine MM.callSi (m_J6_bitCount_0f7a4 e6) k_X2_75 S ecOK hEs hK (by constructor <;> (dsimp only; omega)) rfl rfl hl.1 (Nat.le_of_ble_eq_true rfl) dX2_seekLargest_10 ⟨Nat.le_refl _, Nat.le_refl _⟩ hP hD hS (fun H locs hP hD hS => ?_)
      refine lv_icmp_gt (tgt := 17) hx hb dX2_seekLargest_13 (by decide) (fun c7 => ?_) (fun c7 => ?_)
      · have hF := ite_t hF c7
        refine lv_iload_n hx hb dX2_seekLargest_17 rfl (lv_at hl 3 rfl) ?_
        refine lv_if_lt (tgt := 27) hx hb dX2_seekLargest_18 (by decide) (fun c8 => ?_) (fun c8 => ?_)
        · have hF := ite_t hF c8
          exact b27 _ hself _ _  hF H locs ls hP hD hS (lv_sub hl [0, 1] rfl)
        · have hF := ite_f hF c8
          refine lv_iload_n hx hb dX2_seekLargest_21 rfl (lv_at hl 3 rfl) ?_
          refine lv_bipush (v := 12) hx hb dX2_seekLargest_22 (by decide) ?_
          refine lv_icmp_lt (tgt := 33) hx hb dX2_seekLargest_24 (by decide) (fun c9 => ?_) (fun c9 => ?_)
          · have hF := ite_t hF c9
            refine lv_aload_n hx hb dX2_seekLargest_33 rfl (lv_at hl 0 rfl) ?_
            refine lv_iload_n hx hb dX2_seekLargest_34 rfl (lv_at hl 1 rfl) ?_
            refine lv_iload_n hx hb dX2_seekLargest_35 rfl (lv_at hl 2 rfl) ?_
            refine lv_iload_n hx hb dX2_seekLargest_36 rfl (lv_at hl 3 rfl) ?_
            obtain ⟨r11, u10, e12, hF⟩ := bdI_some hF
            refine MM.callSi (m_X2_without e12) k_X2_64 S ecOK hEs hK (by constructor <;> (dsimp only; omega)) rfl rfl hl.1 (Nat.le_of_ble_eq_true rfl) dX2_seekLargest_37 ⟨Nat.le_refl _, Nat.le_refl _⟩ hP hD hS (fun H locs hP hD hS => ?_)
            refine lv_iload_n hx hb dX2_seekLargest_40 rfl (lv_at hl 3 rfl) ?_
            refine lv_iconst (v := 1) hx hb dX2_seekLargest_41 (by decide) ?_
            refine lv_isub hx hb dX2_seekLargest_42 ?_
            obtain ⟨u13, e15, hF⟩ := bdV_some hF
            refine MM.callVv (hself e15) k_X2_71 S ecOK hEs hK (by constructor <;> (dsimp only; omega)) (va_recv hK hP rfl c_RI) rfl rfl hl.1 (Nat.le_of_ble_eq_true rfl) dX2_seekLargest_43 ⟨Nat.le_refl _, Nat.le_refl _⟩ hP hD hS (fun H locs hP hD hS => ?_)
            refine lv_iload_n hx hb dX2_seekLargest_46 rfl (lv_at hl 2 rfl) ?_
            refine lv_iload_n hx hb dX2_seekLargest_47 rfl (lv_at hl 3 rfl) ?_
            obtain ⟨r17, u16, e18, hF⟩ := bdI_some hF
            refine MM.callSi (m_X2_isIn e18) k_X2_61 S ecOK hEs hK (by constructor <;> (dsimp only; omega)) rfl rfl hl.1 (Nat.le_of_ble_eq_true rfl) dX2_seekLargest_48 ⟨Nat.le_refl _, Nat.le_refl _⟩ hP hD hS (fun H locs hP hD hS => ?_)
            refine lv_if_eq (tgt := 74) hx hb dX2_seekLargest_51 (by decide) (fun c19 => ?_) (fun c19 => ?_)
            · have hF := ite_t hF c19
              exact b74 _ hself _  hF H locs ls hP hD hS (lv_sub hl [] rfl)
            · have hF := ite_f hF c19
              refine lv_aload_n hx hb dX2_seekLargest_54 rfl (lv_at hl 0 rfl) ?_
              refine lv_iload_n hx hb dX2_seekLargest_55 rfl (lv_at hl 1 rfl) ?_
              refine lv_iconst (v := 1) hx hb dX2_seekLargest_56 (by decide) ?_
              refine lv_iload_n hx hb dX2_seekLargest_57 rfl (lv_at hl 3 rfl) ?_
              refine lv_ishl hx hb dX2_seekLargest_58 ?_
              refine lv_ior hx hb dX2_seekLargest_59 ?_
              refine lv_iload_n hx hb dX2_seekLargest_60 rfl (lv_at hl 2 rfl) ?_
              refine lv_aload_n hx hb dX2_seekLargest_61 rfl (lv_at hl 0 rfl) ?_
              refine va_get_w S hK hP _ c_RI rfl igX2 2 (by decide) q160 rfl rfl dX2_seekLargest_62 ?_
              refine lv_iload_n hx hb dX2_seekLargest_65 rfl (lv_at hl 3 rfl) ?_
              obtain ⟨hin20, hF⟩ := gd_some hF
              refine cIald S hK hP ⟨rfl, by decide⟩ rfl hin20 dX2_seekLargest_66 ?_
              refine lv_iand hx hb dX2_seekLargest_67 ?_
              refine lv_iload_n hx hb dX2_seekLargest_68 rfl (lv_at hl 3 rfl) ?_
              refine lv_iconst (v := 1) hx hb dX2_seekLargest_69 (by decide) ?_
              refine lv_isub hx hb dX2_seekLargest_70 ?_
              obtain ⟨u21, e23, hF⟩ := bdV_some hF
              refine MM.callVv (hself e23) k_X2_71 S ecOK hEs hK (by constructor <;> (dsimp only; omega)) (va_recv hK hP rfl c_RI) rfl rfl hl.1 (Nat.le_of_ble_eq_true rfl) dX2_seekLargest_71 ⟨Nat.le_refl _, Nat.le_refl _⟩ hP hD hS (fun H locs hP hD hS => ?_)
              exact b74 _ hself _  hF H locs ls hP hD hS (lv_sub hl [] rfl)
          · have hF := ite_f hF c9
            exact b27 _ hself _ _  hF H locs ls hP hD hS (lv_sub hl [0, 1] rfl)
      · have hF := ite_f hF c7
        obtain rfl := sv_eq hF
        exact retV S hr hlocks hP hD hS dX2_seekLargest_16
    have hl := lv_entry ([.ref (a 7), .int x1, .int x2, .int x3]) (n := 4) (Nat.le_of_ble_eq_true rfl)
    rw [lg_entry_eq]
    generalize (lg_sl ([.ref (a 7), .int x1, .int x2, .int x3]) ++ List.replicate (4 - (lg_sl ([.ref (a 7), .int x1, .int x2, .int x3])).length) Slot.unset).toArray = ls at hl ⊢
    exact b_main _ _ _ hP hD hS hl

set_option maxRecDepth 100000 in
set_option maxHeartbeats 4000000 in
theorem m_X2_largestRing  {x1 : Int32} {u u' : Mem} {r : Int32}  (hF : F_X2_largestRing  u x1 = some (r, u')) : MC l D cc a tU adK adV yX2_largestRing cX2_largestRing 2 (some .int) 23 524 [.ref (a 7), .int x1] u (some (.int r)) u' := by
  refine MM.ofW (by decide) (fun p e s m below meth c S hr hlocks hK hEs hP hD hS => ?_)
  have S : CallFix p m c cX2_largestRing 2 s _ gtbl RX2 := S
  obtain ⟨hx, hb, hml, hown, hts⟩ := id S
  unfold F_X2_largestRing at hF
  have b_main : BW p l e s m below meth c 23 524 [.ref (a 7), .int x1] D (AC a) (some (.int r)) (wlC cc a u') 2 (wlC cc a u) 0 [(0, .ref (a 7)), (1, .int x1)] [] := by
    intro H locs ls hP hD hS hl
    refine lv_aload_n hx hb dX2_largestRing_0 rfl (lv_at hl 0 rfl) ?_
    refine lv_iconst (v := 0) hx hb dX2_largestRing_1 (by decide) ?_
    refine va_put_w S igX2 tyX2 tyX2_ok nmX2 hK hP hD hS _ c_RI rfl 8 (by decide) q166 rfl rfl (tyX2_ok 8 (by decide)) rfl rfl (Nat.le_of_ble_eq_true rfl) (z_RI (by decide)) dX2_largestRing_2 (fun H locs hP hD hS => ?_)
    refine lv_aload_n hx hb dX2_largestRing_5 rfl (lv_at hl 0 rfl) ?_
    refine lv_iconst (v := 0) hx hb dX2_largestRing_6 (by decide) ?_
    refine lv_iload_n hx hb dX2_largestRing_7 rfl (lv_at hl 1 rfl) ?_
    refine lv_bipush (v := 11) hx hb dX2_largestRing_8 (by decide) ?_
    obtain ⟨u1, e3, hF⟩ := bdV_some hF
    refine MM.callVv (m_X2_seekLargest 20 e3) k_X2_71 S ecOK hEs hK ⟨by decide, by decide⟩ (va_recv hK hP rfl c_RI) rfl rfl hl.1 (Nat.le_of_ble_eq_true rfl) dX2_largestRing_10 ⟨Nat.le_refl _, Nat.le_refl _⟩ hP hD hS (fun H locs hP hD hS => ?_)
    refine lv_aload_n hx hb dX2_largestRing_13 rfl (lv_at hl 0 rfl) ?_
    refine va_get_w S hK hP _ c_RI rfl igX2 8 (by decide) q166 rfl rfl dX2_largestRing_14 ?_
    obtain ⟨rfl, rfl⟩ := sp_eq hF
    exact retI S hr hlocks hP hD hS dX2_largestRing_17
  have hl := lv_entry ([.ref (a 7), .int x1]) (n := 2) (Nat.le_of_ble_eq_true rfl)
  rw [lg_entry_eq]
  generalize (lg_sl ([.ref (a 7), .int x1]) ++ List.replicate (2 - (lg_sl ([.ref (a 7), .int x1])).length) Slot.unset).toArray = ls at hl ⊢
  exact b_main _ _ _ hP hD hS hl

set_option maxRecDepth 100000 in
set_option maxHeartbeats 4000000 in
theorem m_X6_most  {x1 : Int32} {u u' : Mem} {r : Int32}  (hF : F_X6_most  u x1 = some (r, u')) : MC l D cc a tU adK adV yX6_most cX6_most 2 (some .int) 24 545 [.ref (a 0), .int x1] u (some (.int r)) u' := by
  refine MM.ofW (by decide) (fun p e s m below meth c S hr hlocks hK hEs hP hD hS => ?_)
  have S : CallFix p m c cX6_most 2 s _ gtbl RX6 := S
  obtain ⟨hx, hb, hml, hown, hts⟩ := id S
  unfold F_X6_most at hF
  have b_main : BW p l e s m below meth c 24 545 [.ref (a 0), .int x1] D (AC a) (some (.int r)) (wlC cc a u') 2 (wlC cc a u) 0 [(0, .ref (a 0)), (1, .int x1)] [] := by
    intro H locs ls hP hD hS hl
    refine lv_aload_n hx hb dX6_most_0 rfl (lv_at hl 0 rfl) ?_
    refine va_get_w S hK hP _ c_SP rfl igX6 0 (by decide) q259 rfl rfl dX6_most_1 ?_
    refine lv_iload_n hx hb dX6_most_4 rfl (lv_at hl 1 rfl) ?_
    obtain ⟨r2, u1, e3, hF⟩ := bdI_some hF
    refine MM.callVi (m_X0_hasAll ⟨by decide, by decide⟩ e3) k_X6_160 S ecOK hEs hK ⟨by decide, by decide⟩ (va_recv hK hP rfl (c_AR ⟨by decide, by decide⟩)) rfl rfl hl.1 (Nat.le_of_ble_eq_true rfl) dX6_most_5 ⟨Nat.le_refl _, Nat.le_refl _⟩ hP hD hS (fun H locs hP hD hS => ?_)
    refine lv_if_ne (tgt := 18) hx hb dX6_most_8 (by decide) (fun c4 => ?_) (fun c4 => ?_)
    · have hF := ite_f hF c4
      refine lv_aload_n hx hb dX6_most_18 rfl (lv_at hl 0 rfl) ?_
      refine va_get_w S hK hP _ c_SP rfl igX6 2 (by decide) q261 rfl rfl dX6_most_19 ?_
      obtain ⟨u5, e7, hF⟩ := bdV_some hF
      refine MM.callVv (m_X2_weigh e7) k_X6_163 S ecOK hEs hK ⟨by decide, by decide⟩ (va_recv hK hP rfl c_RI) rfl rfl hl.1 (Nat.le_of_ble_eq_true rfl) dX6_most_22 ⟨Nat.le_refl _, Nat.le_refl _⟩ hP hD hS (fun H locs hP hD hS => ?_)
      refine lv_aload_n hx hb dX6_most_25 rfl (lv_at hl 0 rfl) ?_
      refine va_get_w S hK hP _ c_SP rfl igX6 2 (by decide) q261 rfl rfl dX6_most_26 ?_
      refine lv_iload_n hx hb dX6_most_29 rfl (lv_at hl 1 rfl) ?_
      obtain ⟨r9, u8, e10, hF⟩ := bdI_some hF
      refine MM.callVi (m_X2_largestRing e10) k_X6_169 S ecOK hEs hK ⟨by decide, by decide⟩ (va_recv hK hP rfl c_RI) rfl rfl hl.1 (Nat.le_of_ble_eq_true rfl) dX6_most_30 ⟨Nat.le_refl _, Nat.le_refl _⟩ hP hD hS (fun H locs hP hD hS => ?_)
      obtain ⟨r12, u11, e13, hF⟩ := bdI_some hF
      refine MM.callSi (m_J6_bitCount_0f7a4 e13) k_X6_172 S ecOK hEs hK ⟨by decide, by decide⟩ rfl rfl hl.1 (Nat.le_of_ble_eq_true rfl) dX6_most_33 ⟨Nat.le_refl _, Nat.le_refl _⟩ hP hD hS (fun H locs hP hD hS => ?_)
      obtain ⟨rfl, rfl⟩ := sp_eq hF
      exact retI S hr hlocks hP hD hS dX6_most_36
    · have hF := ite_t hF c4
      refine lv_aload_n hx hb dX6_most_11 rfl (lv_at hl 0 rfl) ?_
      refine lv_ldc hx hb hown (hts _ q291) dX6_most_12 ?_
      obtain ⟨r15, u14, e16, hF⟩ := bdI_some hF
      refine MM.callVi (m_X6_found e16) k_X6_64 S ecOK hEs hK ⟨by decide, by decide⟩ (va_recv hK hP rfl c_SP) rfl rfl hl.1 (Nat.le_of_ble_eq_true rfl) dX6_most_14 ⟨Nat.le_refl _, Nat.le_refl _⟩ hP hD hS (fun H locs hP hD hS => ?_)
      obtain ⟨rfl, rfl⟩ := sp_eq hF
      exact retI S hr hlocks hP hD hS dX6_most_17
  have hl := lv_entry ([.ref (a 0), .int x1]) (n := 2) (Nat.le_of_ble_eq_true rfl)
  rw [lg_entry_eq]
  generalize (lg_sl ([.ref (a 0), .int x1]) ++ List.replicate (2 - (lg_sl ([.ref (a 0), .int x1])).length) Slot.unset).toArray = ls at hl ⊢
  exact b_main _ _ _ hP hD hS hl

set_option maxRecDepth 100000 in
set_option maxHeartbeats 4000000 in
theorem m_X6_best  {x1 : Int32} {u u' : Mem} {r : Int32}  (hF : F_X6_best  u x1 = some (r, u')) : MC l D cc a tU adK adV yX6_best cX6_best 2 (some .int) 24 545 [.ref (a 0), .int x1] u (some (.int r)) u' := by
  refine MM.ofW (by decide) (fun p e s m below meth c S hr hlocks hK hEs hP hD hS => ?_)
  have S : CallFix p m c cX6_best 2 s _ gtbl RX6 := S
  obtain ⟨hx, hb, hml, hown, hts⟩ := id S
  unfold F_X6_best at hF
  have b_main : BW p l e s m below meth c 24 545 [.ref (a 0), .int x1] D (AC a) (some (.int r)) (wlC cc a u') 2 (wlC cc a u) 0 [(0, .ref (a 0)), (1, .int x1)] [] := by
    intro H locs ls hP hD hS hl
    refine lv_aload_n hx hb dX6_best_0 rfl (lv_at hl 0 rfl) ?_
    refine va_get_w S hK hP _ c_SP rfl igX6 0 (by decide) q259 rfl rfl dX6_best_1 ?_
    refine lv_iload_n hx hb dX6_best_4 rfl (lv_at hl 1 rfl) ?_
    obtain ⟨r2, u1, e3, hF⟩ := bdI_some hF
    refine MM.callVi (m_X0_hasAll ⟨by decide, by decide⟩ e3) k_X6_160 S ecOK hEs hK ⟨by decide, by decide⟩ (va_recv hK hP rfl (c_AR ⟨by decide, by decide⟩)) rfl rfl hl.1 (Nat.le_of_ble_eq_true rfl) dX6_best_5 ⟨Nat.le_refl _, Nat.le_refl _⟩ hP hD hS (fun H locs hP hD hS => ?_)
    refine lv_if_ne (tgt := 18) hx hb dX6_best_8 (by decide) (fun c4 => ?_) (fun c4 => ?_)
    · have hF := ite_f hF c4
      refine lv_aload_n hx hb dX6_best_18 rfl (lv_at hl 0 rfl) ?_
      refine va_get_w S hK hP _ c_SP rfl igX6 2 (by decide) q261 rfl rfl dX6_best_19 ?_
      obtain ⟨u5, e7, hF⟩ := bdV_some hF
      refine MM.callVv (m_X2_weigh e7) k_X6_163 S ecOK hEs hK ⟨by decide, by decide⟩ (va_recv hK hP rfl c_RI) rfl rfl hl.1 (Nat.le_of_ble_eq_true rfl) dX6_best_22 ⟨Nat.le_refl _, Nat.le_refl _⟩ hP hD hS (fun H locs hP hD hS => ?_)
      refine lv_aload_n hx hb dX6_best_25 rfl (lv_at hl 0 rfl) ?_
      refine va_get_w S hK hP _ c_SP rfl igX6 2 (by decide) q261 rfl rfl dX6_best_26 ?_
      refine lv_iload_n hx hb dX6_best_29 rfl (lv_at hl 1 rfl) ?_
      obtain ⟨r9, u8, e10, hF⟩ := bdI_some hF
      refine MM.callVi (m_X2_largestRing e10) k_X6_169 S ecOK hEs hK ⟨by decide, by decide⟩ (va_recv hK hP rfl c_RI) rfl rfl hl.1 (Nat.le_of_ble_eq_true rfl) dX6_best_30 ⟨Nat.le_refl _, Nat.le_refl _⟩ hP hD hS (fun H locs hP hD hS => ?_)
      obtain ⟨rfl, rfl⟩ := sp_eq hF
      exact retI S hr hlocks hP hD hS dX6_best_33
    · have hF := ite_t hF c4
      refine lv_aload_n hx hb dX6_best_11 rfl (lv_at hl 0 rfl) ?_
      refine lv_ldc hx hb hown (hts _ q291) dX6_best_12 ?_
      obtain ⟨r12, u11, e13, hF⟩ := bdI_some hF
      refine MM.callVi (m_X6_found e13) k_X6_64 S ecOK hEs hK ⟨by decide, by decide⟩ (va_recv hK hP rfl c_SP) rfl rfl hl.1 (Nat.le_of_ble_eq_true rfl) dX6_best_14 ⟨Nat.le_refl _, Nat.le_refl _⟩ hP hD hS (fun H locs hP hD hS => ?_)
      obtain ⟨rfl, rfl⟩ := sp_eq hF
      exact retI S hr hlocks hP hD hS dX6_best_17
  have hl := lv_entry ([.ref (a 0), .int x1]) (n := 2) (Nat.le_of_ble_eq_true rfl)
  rw [lg_entry_eq]
  generalize (lg_sl ([.ref (a 0), .int x1]) ++ List.replicate (2 - (lg_sl ([.ref (a 0), .int x1])).length) Slot.unset).toArray = ls at hl ⊢
  exact b_main _ _ _ hP hD hS hl

set_option maxRecDepth 100000 in
set_option maxHeartbeats 4000000 in
theorem m_X2_deal : ∀ (dd : Nat) {u u' : Mem}  {x1 : Int32} {x2 : Int32} {x3 : Int32}, F_X2_deal dd u x1 x2 x3 = some u' → MC l D cc a tU adK adV yX2_deal cX2_deal 5 none (dd + 2) (24 * dd + 41) [.ref (a 7), .int x1, .int x2, .int x3] u none u' := by
  intro dd
  induction dd with
  | zero => intro u u' x1 x2 x3 hF; cases hF
  | succ dd ih =>
    intro u u' x1 x2 x3 hF
    have hself := @ih
    refine MM.ofW (by decide) (fun p e s m below meth c S hr hlocks hK hEs hP hD hS => ?_)
    have S : CallFix p m c cX2_deal 5 s _ gtbl RX2 := S
    obtain ⟨hx, hb, hml, hown, hts⟩ := id S
    have b139 : ∀ (self : Mem → Int32 → Int32 → Int32 → Option Mem) (hself : ∀ {u u' : Mem} {x1 : Int32} {x2 : Int32} {x3 : Int32}, self u x1 x2 x3 = some u' → MC l D cc a tU adK adV yX2_deal cX2_deal 5 none (dd + 2) (24 * dd + 41) [.ref (a 7), .int x1, .int x2, .int x3] u none u')  (u : Mem)  , F_X2_deal_139 self  u  = some u' → BW p l e s m below meth c (dd + 1 + 2) (24 * (dd + 1) + 41) [.ref (a 7), .int x1, .int x2, .int x3] D (AC a) none (wlC cc a u') 5 (wlC cc a u) 139 [] [] := by
      intro self hself  u  hF H locs ls hP hD hS hl
      unfold F_X2_deal_139 at hF
      obtain rfl := sv_eq hF
      exact retV S hr hlocks hP hD hS dX2_deal_139
    have b107 : ∀ (self : Mem → Int32 → Int32 → Int32 → Option Mem) (hself : ∀ {u u' : Mem} {x1 : Int32} {x2 : Int32} {x3 : Int32}, self u x1 x2 x3 = some u' → MC l D cc a tU adK adV yX2_deal cX2_deal 5 none (dd + 2) (24 * dd + 41) [.ref (a 7), .int x1, .int x2, .int x3] u none u') (k42 : Mem → Int32 → Int32 → Int32 → Int32 → Option Mem) (hk42 : ∀ (u : Mem) (v1 : Int32) (v2 : Int32) (v3 : Int32) (v4 : Int32) , k42 u v1 v2 v3 v4 = some u' → BW p l e s m below meth c (dd + 1 + 2) (24 * (dd + 1) + 41) [.ref (a 7), .int x1, .int x2, .int x3] D (AC a) none (wlC cc a u') 5 (wlC cc a u) 42 [(0, .ref (a 7)), (1, .int v1), (2, .int v2), (3, .int v3), (4, .int v4)] []) (u : Mem) (v1 : Int32) (v2 : Int32) (v3 : Int32) (v4 : Int32) , F_X2_deal_107 self k42 u v1 v2 v3 v4 = some u' → BW p l e s m below meth c (dd + 1 + 2) (24 * (dd + 1) + 41) [.ref (a 7), .int x1, .int x2, .int x3] D (AC a) none (wlC cc a u') 5 (wlC cc a u) 107 [(0, .ref (a 7)), (1, .int v1), (2, .int v2), (3, .int v3), (4, .int v4)] [] := by
      intro self hself k42 hk42 u v1 v2 v3 v4 hF H locs ls hP hD hS hl
      unfold F_X2_deal_107 at hF
      refine lv_inc1 (k := 4) (lv' := [(4, .int _), (0, .ref _), (1, .int _), (2, .int _), (3, .int _)]) hx hb dX2_deal_107 hl rfl (by decide) rfl (fun ls hl => ?_)
      refine lv_goto (tgt := 42) hx hb dX2_deal_110 (by decide) ?_
      exact hk42 _ _ _ _ _  hF H locs ls hP hD hS (lv_sub hl [1, 2, 3, 4, 0] rfl)
    have b42 : ∀ (self : Mem → Int32 → Int32 → Int32 → Option Mem) (hself : ∀ {u u' : Mem} {x1 : Int32} {x2 : Int32} {x3 : Int32}, self u x1 x2 x3 = some u' → MC l D cc a tU adK adV yX2_deal cX2_deal 5 none (dd + 2) (24 * dd + 41) [.ref (a 7), .int x1, .int x2, .int x3] u none u') , ∀ (n : Nat) (u : Mem) (v1 : Int32) (v2 : Int32) (v3 : Int32) (v4 : Int32) , F_X2_deal_42 self  n u v1 v2 v3 v4 = some u' → BW p l e s m below meth c (dd + 1 + 2) (24 * (dd + 1) + 41) [.ref (a 7), .int x1, .int x2, .int x3] D (AC a) none (wlC cc a u') 5 (wlC cc a u) 42 [(0, .ref (a 7)), (1, .int v1), (2, .int v2), (3, .int v3), (4, .int v4)] [] := by
      intro self hself 
      intro n
      induction n with
      | zero => intro u v1 v2 v3 v4 hF; cases hF
      | succ n ih =>
        intro u v1 v2 v3 v4 hF H locs ls hP hD hS hl
        unfold F_X2_deal_42 at hF
        refine lv_iload hx hb dX2_deal_42 (lv_at hl 4 rfl) ?_
        refine lv_iload_n hx hb dX2_deal_44 rfl (lv_at hl 3 rfl) ?_
        refine lv_icmp_ge (tgt := 113) hx hb dX2_deal_45 (by decide) (fun c1 => ?_) (fun c1 => ?_)
        · have hF := ite_t hF c1
          refine lv_iload_n hx hb dX2_deal_113 rfl (lv_at hl 3 rfl) ?_
          refine lv_bipush (v := 12) hx hb dX2_deal_114 (by decide) ?_
          refine lv_icmp_ge (tgt := 139) hx hb dX2_deal_116 (by decide) (fun c2 => ?_) (fun c2 => ?_)
          · have hF := ite_t hF c2
            exact b139 _ hself _  hF H locs ls hP hD hS (lv_sub hl [] rfl)
          · have hF := ite_f hF c2
            refine lv_aload_n hx hb dX2_deal_119 rfl (lv_at hl 0 rfl) ?_
            refine va_get_w S hK hP _ c_RI rfl igX2 4 (by decide) q162 rfl rfl dX2_deal_120 ?_
            refine lv_iload_n hx hb dX2_deal_123 rfl (lv_at hl 3 rfl) ?_
            refine lv_iconst (v := 1) hx hb dX2_deal_124 (by decide) ?_
            refine lv_iload_n hx hb dX2_deal_125 rfl (lv_at hl 2 rfl) ?_
            refine lv_ishl hx hb dX2_deal_126 ?_
            obtain ⟨hin3, hF⟩ := gd_some hF
            refine cIast S hK hP hD hS ⟨rfl, by decide⟩ rfl hin3 dX2_deal_127 (fun H locs hP hD hS => ?_)
            refine lv_aload_n hx hb dX2_deal_128 rfl (lv_at hl 0 rfl) ?_
            refine lv_iload_n hx hb dX2_deal_129 rfl (lv_at hl 1 rfl) ?_
            refine lv_iload_n hx hb dX2_deal_130 rfl (lv_at hl 2 rfl) ?_
            refine lv_iconst (v := 1) hx hb dX2_deal_131 (by decide) ?_
            refine lv_iadd hx hb dX2_deal_132 ?_
            refine lv_iload_n hx hb dX2_deal_133 rfl (lv_at hl 3 rfl) ?_
            refine lv_iconst (v := 1) hx hb dX2_deal_134 (by decide) ?_
            refine lv_iadd hx hb dX2_deal_135 ?_
            obtain ⟨u4, e6, hF⟩ := bdV_some hF
            refine MM.callVv (hself e6) k_X2_84 S ecOK hEs hK (by constructor <;> (dsimp only; omega)) (va_recv hK hP rfl c_RI) rfl rfl hl.1 (Nat.le_of_ble_eq_true rfl) dX2_deal_136 ⟨Nat.le_refl _, Nat.le_refl _⟩ hP hD hS (fun H locs hP hD hS => ?_)
            exact b139 _ hself _  hF H locs ls hP hD hS (lv_sub hl [] rfl)
        · have hF := ite_f hF c1
          refine lv_aload_n hx hb dX2_deal_48 rfl (lv_at hl 0 rfl) ?_
          refine va_get_w S hK hP _ c_RI rfl igX2 4 (by decide) q162 rfl rfl dX2_deal_49 ?_
          refine lv_iload hx hb dX2_deal_52 (lv_at hl 4 rfl) ?_
          obtain ⟨hin7, hF⟩ := gd_some hF
          refine cIald S hK hP ⟨rfl, by decide⟩ rfl hin7 dX2_deal_54 ?_
          refine lv_aload_n hx hb dX2_deal_55 rfl (lv_at hl 0 rfl) ?_
          refine va_get_w S hK hP _ c_RI rfl igX2 2 (by decide) q160 rfl rfl dX2_deal_56 ?_
          refine lv_iload_n hx hb dX2_deal_59 rfl (lv_at hl 2 rfl) ?_
          obtain ⟨hin8, hF⟩ := gd_some hF
          refine cIald S hK hP ⟨rfl, by decide⟩ rfl hin8 dX2_deal_60 ?_
          refine lv_iconst (v := -1) hx hb dX2_deal_61 (by decide) ?_
          refine lv_ixor hx hb dX2_deal_62 ?_
          refine lv_iand hx hb dX2_deal_63 ?_
          refine lv_if_ne (tgt := 107) hx hb dX2_deal_64 (by decide) (fun c9 => ?_) (fun c9 => ?_)
          · have hF := ite_f hF c9
            exact b107 _ hself _ ih _ _ _ _ _  hF H locs ls hP hD hS (lv_sub hl [0, 1, 2, 3, 4] rfl)
          · have hF := ite_t hF c9
            refine lv_aload_n hx hb dX2_deal_67 rfl (lv_at hl 0 rfl) ?_
            refine va_get_w S hK hP _ c_RI rfl igX2 4 (by decide) q162 rfl rfl dX2_deal_68 ?_
            refine lv_iload hx hb dX2_deal_71 (lv_at hl 4 rfl) ?_
            refine lv_dup2_11 hx hb dX2_deal_73 rfl rfl ?_
            obtain ⟨hin10, hF⟩ := gd_some hF
            refine cIald S hK hP ⟨rfl, by decide⟩ rfl hin10 dX2_deal_74 ?_
            refine lv_iconst (v := 1) hx hb dX2_deal_75 (by decide) ?_
            refine lv_iload_n hx hb dX2_deal_76 rfl (lv_at hl 2 rfl) ?_
            refine lv_ishl hx hb dX2_deal_77 ?_
            refine lv_ior hx hb dX2_deal_78 ?_
            obtain ⟨hin11, hF⟩ := gd_some hF
            refine cIast S hK hP hD hS ⟨rfl, by decide⟩ rfl hin11 dX2_deal_79 (fun H locs hP hD hS => ?_)
            obtain ⟨u12, e13, hF⟩ := bdV_some hF
            obtain rfl := sv_eq e13
            refine lv_aload_n hx hb dX2_deal_80 rfl (lv_at hl 0 rfl) ?_
            refine lv_iload_n hx hb dX2_deal_81 rfl (lv_at hl 1 rfl) ?_
            refine lv_iload_n hx hb dX2_deal_82 rfl (lv_at hl 2 rfl) ?_
            refine lv_iconst (v := 1) hx hb dX2_deal_83 (by decide) ?_
            refine lv_iadd hx hb dX2_deal_84 ?_
            refine lv_iload_n hx hb dX2_deal_85 rfl (lv_at hl 3 rfl) ?_
            obtain ⟨u14, e16, hF⟩ := bdV_some hF
            refine MM.callVv (hself e16) k_X2_84 S ecOK hEs hK (by constructor <;> (dsimp only; omega)) (va_recv hK hP rfl c_RI) rfl rfl hl.1 (Nat.le_of_ble_eq_true rfl) dX2_deal_86 ⟨Nat.le_refl _, Nat.le_refl _⟩ hP hD hS (fun H locs hP hD hS => ?_)
            refine lv_aload_n hx hb dX2_deal_89 rfl (lv_at hl 0 rfl) ?_
            refine va_get_w S hK hP _ c_RI rfl igX2 4 (by decide) q162 rfl rfl dX2_deal_90 ?_
            refine lv_iload hx hb dX2_deal_93 (lv_at hl 4 rfl) ?_
            refine lv_aload_n hx hb dX2_deal_95 rfl (lv_at hl 0 rfl) ?_
            refine va_get_w S hK hP _ c_RI rfl igX2 4 (by decide) q162 rfl rfl dX2_deal_96 ?_
            refine lv_iload hx hb dX2_deal_99 (lv_at hl 4 rfl) ?_
            obtain ⟨hin17, hF⟩ := gd_some hF
            refine cIald S hK hP ⟨rfl, by decide⟩ rfl hin17 dX2_deal_101 ?_
            refine lv_iload_n hx hb dX2_deal_102 rfl (lv_at hl 2 rfl) ?_
            obtain ⟨r19, u18, e20, hF⟩ := bdI_some hF
            refine MM.callSi (m_X2_without e20) k_X2_64 S ecOK hEs hK (by constructor <;> (dsimp only; omega)) rfl rfl hl.1 (Nat.le_of_ble_eq_true rfl) dX2_deal_103 ⟨Nat.le_refl _, Nat.le_refl _⟩ hP hD hS (fun H locs hP hD hS => ?_)
            obtain ⟨hin21, hF⟩ := gd_some hF
            refine cIast S hK hP hD hS ⟨rfl, by decide⟩ rfl hin21 dX2_deal_106 (fun H locs hP hD hS => ?_)
            exact b107 _ hself _ ih _ _ _ _ _  hF H locs ls hP hD hS (lv_sub hl [0, 1, 2, 3, 4] rfl)
    unfold F_X2_deal at hF
    have b_main : BW p l e s m below meth c (dd + 1 + 2) (24 * (dd + 1) + 41) [.ref (a 7), .int x1, .int x2, .int x3] D (AC a) none (wlC cc a u') 5 (wlC cc a u) 0 [(0, .ref (a 7)), (1, .int x1), (2, .int x2), (3, .int x3)] [] := by
      intro H locs ls hP hD hS hl
      refine lv_iload_n hx hb dX2_deal_0 rfl (lv_at hl 3 rfl) ?_
      refine lv_aload_n hx hb dX2_deal_1 rfl (lv_at hl 0 rfl) ?_
      refine va_get_w S hK hP _ c_RI rfl igX2 9 (by decide) q167 rfl rfl dX2_deal_2 ?_
      refine lv_icmp_lt (tgt := 9) hx hb dX2_deal_5 (by decide) (fun c22 => ?_) (fun c22 => ?_)
      · have hF := ite_t hF c22
        refine lv_iload_n hx hb dX2_deal_9 rfl (lv_at hl 2 rfl) ?_
        refine lv_bipush (v := 12) hx hb dX2_deal_10 (by decide) ?_
        refine lv_icmp_lt (tgt := 21) hx hb dX2_deal_12 (by decide) (fun c23 => ?_) (fun c23 => ?_)
        · have hF := ite_t hF c23
          refine lv_iload_n hx hb dX2_deal_21 rfl (lv_at hl 1 rfl) ?_
          refine lv_iload_n hx hb dX2_deal_22 rfl (lv_at hl 2 rfl) ?_
          obtain ⟨r25, u24, e26, hF⟩ := bdI_some hF
          refine MM.callSi (m_X2_isIn e26) k_X2_61 S ecOK hEs hK (by constructor <;> (dsimp only; omega)) rfl rfl hl.1 (Nat.le_of_ble_eq_true rfl) dX2_deal_23 ⟨Nat.le_refl _, Nat.le_refl _⟩ hP hD hS (fun H locs hP hD hS => ?_)
          refine lv_if_ne (tgt := 39) hx hb dX2_deal_26 (by decide) (fun c27 => ?_) (fun c27 => ?_)
          · have hF := ite_f hF c27
            refine lv_iconst (v := 0) hx hb dX2_deal_39 (by decide) ?_
            refine lv_istore (lv' := [(4, .int _), (0, .ref _), (1, .int _), (2, .int _), (3, .int _)]) hx hb dX2_deal_40 hl (by decide) rfl (fun ls hl => ?_)
            exact b42 _ hself _ _ _ _ _ _  hF H locs ls hP hD hS (lv_sub hl [1, 2, 3, 4, 0] rfl)
          · have hF := ite_t hF c27
            refine lv_aload_n hx hb dX2_deal_29 rfl (lv_at hl 0 rfl) ?_
            refine lv_iload_n hx hb dX2_deal_30 rfl (lv_at hl 1 rfl) ?_
            refine lv_iload_n hx hb dX2_deal_31 rfl (lv_at hl 2 rfl) ?_
            refine lv_iconst (v := 1) hx hb dX2_deal_32 (by decide) ?_
            refine lv_iadd hx hb dX2_deal_33 ?_
            refine lv_iload_n hx hb dX2_deal_34 rfl (lv_at hl 3 rfl) ?_
            obtain ⟨u28, e30, hF⟩ := bdV_some hF
            refine MM.callVv (hself e30) k_X2_84 S ecOK hEs hK (by constructor <;> (dsimp only; omega)) (va_recv hK hP rfl c_RI) rfl rfl hl.1 (Nat.le_of_ble_eq_true rfl) dX2_deal_35 ⟨Nat.le_refl _, Nat.le_refl _⟩ hP hD hS (fun H locs hP hD hS => ?_)
            obtain rfl := sv_eq hF
            exact retV S hr hlocks hP hD hS dX2_deal_38
        · have hF := ite_f hF c23
          refine lv_aload_n hx hb dX2_deal_15 rfl (lv_at hl 0 rfl) ?_
          refine lv_iload_n hx hb dX2_deal_16 rfl (lv_at hl 3 rfl) ?_
          refine va_put_w S igX2 tyX2 tyX2_ok nmX2 hK hP hD hS _ c_RI rfl 9 (by decide) q167 rfl rfl (tyX2_ok 9 (by decide)) rfl rfl (Nat.le_of_ble_eq_true rfl) (z_RI (by decide)) dX2_deal_17 (fun H locs hP hD hS => ?_)
          obtain rfl := sv_eq hF
          exact retV S hr hlocks hP hD hS dX2_deal_20
      · have hF := ite_f hF c22
        obtain rfl := sv_eq hF
        exact retV S hr hlocks hP hD hS dX2_deal_8
    have hl := lv_entry ([.ref (a 7), .int x1, .int x2, .int x3]) (n := 5) (Nat.le_of_ble_eq_true rfl)
    rw [lg_entry_eq]
    generalize (lg_sl ([.ref (a 7), .int x1, .int x2, .int x3]) ++ List.replicate (5 - (lg_sl ([.ref (a 7), .int x1, .int x2, .int x3])).length) Slot.unset).toArray = ls at hl ⊢
    exact b_main _ _ _ hP hD hS hl

set_option maxRecDepth 100000 in
set_option maxHeartbeats 4000000 in
theorem m_X2_fewestRings  {x1 : Int32} {u u' : Mem} {r : Int32}  (hF : F_X2_fewestRings  u x1 = some (r, u')) : MC l D cc a tU adK adV yX2_fewestRings cX2_fewestRings 2 (some .int) 23 545 [.ref (a 7), .int x1] u (some (.int r)) u' := by
  refine MM.ofW (by decide) (fun p e s m below meth c S hr hlocks hK hEs hP hD hS => ?_)
  have S : CallFix p m c cX2_fewestRings 2 s _ gtbl RX2 := S
  obtain ⟨hx, hb, hml, hown, hts⟩ := id S
  unfold F_X2_fewestRings at hF
  have b_main : BW p l e s m below meth c 23 545 [.ref (a 7), .int x1] D (AC a) (some (.int r)) (wlC cc a u') 2 (wlC cc a u) 0 [(0, .ref (a 7)), (1, .int x1)] [] := by
    intro H locs ls hP hD hS hl
    refine lv_aload_n hx hb dX2_fewestRings_0 rfl (lv_at hl 0 rfl) ?_
    refine lv_iload_n hx hb dX2_fewestRings_1 rfl (lv_at hl 1 rfl) ?_
    obtain ⟨r2, u1, e3, hF⟩ := bdI_some hF
    refine MM.callSi (m_J6_bitCount_0f7a4 e3) k_X2_75 S ecOK hEs hK ⟨by decide, by decide⟩ rfl rfl hl.1 (Nat.le_of_ble_eq_true rfl) dX2_fewestRings_2 ⟨Nat.le_refl _, Nat.le_refl _⟩ hP hD hS (fun H locs hP hD hS => ?_)
    refine va_put_w S igX2 tyX2 tyX2_ok nmX2 hK hP hD hS _ c_RI rfl 9 (by decide) q167 rfl rfl (tyX2_ok 9 (by decide)) rfl rfl (Nat.le_of_ble_eq_true rfl) (z_RI (by decide)) dX2_fewestRings_5 (fun H locs hP hD hS => ?_)
    refine lv_aload_n hx hb dX2_fewestRings_8 rfl (lv_at hl 0 rfl) ?_
    refine lv_iload_n hx hb dX2_fewestRings_9 rfl (lv_at hl 1 rfl) ?_
    refine lv_iconst (v := 0) hx hb dX2_fewestRings_10 (by decide) ?_
    refine lv_iconst (v := 0) hx hb dX2_fewestRings_11 (by decide) ?_
    obtain ⟨u4, e6, hF⟩ := bdV_some hF
    refine MM.callVv (m_X2_deal 20 e6) k_X2_84 S ecOK hEs hK ⟨by decide, by decide⟩ (va_recv hK hP rfl c_RI) rfl rfl hl.1 (Nat.le_of_ble_eq_true rfl) dX2_fewestRings_12 ⟨Nat.le_refl _, Nat.le_refl _⟩ hP hD hS (fun H locs hP hD hS => ?_)
    refine lv_aload_n hx hb dX2_fewestRings_15 rfl (lv_at hl 0 rfl) ?_
    refine va_get_w S hK hP _ c_RI rfl igX2 9 (by decide) q167 rfl rfl dX2_fewestRings_16 ?_
    obtain ⟨rfl, rfl⟩ := sp_eq hF
    exact retI S hr hlocks hP hD hS dX2_fewestRings_19
  have hl := lv_entry ([.ref (a 7), .int x1]) (n := 2) (Nat.le_of_ble_eq_true rfl)
  rw [lg_entry_eq]
  generalize (lg_sl ([.ref (a 7), .int x1]) ++ List.replicate (2 - (lg_sl ([.ref (a 7), .int x1])).length) Slot.unset).toArray = ls at hl ⊢
  exact b_main _ _ _ hP hD hS hl

set_option maxRecDepth 100000 in
set_option maxHeartbeats 4000000 in
theorem m_X6_fewest  {x1 : Int32} {u u' : Mem} {r : Int32}  (hF : F_X6_fewest  u x1 = some (r, u')) : MC l D cc a tU adK adV yX6_fewest cX6_fewest 2 (some .int) 24 566 [.ref (a 0), .int x1] u (some (.int r)) u' := by
  refine MM.ofW (by decide) (fun p e s m below meth c S hr hlocks hK hEs hP hD hS => ?_)
  have S : CallFix p m c cX6_fewest 2 s _ gtbl RX6 := S
  obtain ⟨hx, hb, hml, hown, hts⟩ := id S
  unfold F_X6_fewest at hF
  have b_main : BW p l e s m below meth c 24 566 [.ref (a 0), .int x1] D (AC a) (some (.int r)) (wlC cc a u') 2 (wlC cc a u) 0 [(0, .ref (a 0)), (1, .int x1)] [] := by
    intro H locs ls hP hD hS hl
    refine lv_aload_n hx hb dX6_fewest_0 rfl (lv_at hl 0 rfl) ?_
    refine va_get_w S hK hP _ c_SP rfl igX6 0 (by decide) q259 rfl rfl dX6_fewest_1 ?_
    refine lv_iload_n hx hb dX6_fewest_4 rfl (lv_at hl 1 rfl) ?_
    obtain ⟨r2, u1, e3, hF⟩ := bdI_some hF
    refine MM.callVi (m_X0_hasAll ⟨by decide, by decide⟩ e3) k_X6_160 S ecOK hEs hK ⟨by decide, by decide⟩ (va_recv hK hP rfl (c_AR ⟨by decide, by decide⟩)) rfl rfl hl.1 (Nat.le_of_ble_eq_true rfl) dX6_fewest_5 ⟨Nat.le_refl _, Nat.le_refl _⟩ hP hD hS (fun H locs hP hD hS => ?_)
    refine lv_if_ne (tgt := 18) hx hb dX6_fewest_8 (by decide) (fun c4 => ?_) (fun c4 => ?_)
    · have hF := ite_f hF c4
      refine lv_aload_n hx hb dX6_fewest_18 rfl (lv_at hl 0 rfl) ?_
      refine va_get_w S hK hP _ c_SP rfl igX6 2 (by decide) q261 rfl rfl dX6_fewest_19 ?_
      obtain ⟨u5, e7, hF⟩ := bdV_some hF
      refine MM.callVv (m_X2_weigh e7) k_X6_163 S ecOK hEs hK ⟨by decide, by decide⟩ (va_recv hK hP rfl c_RI) rfl rfl hl.1 (Nat.le_of_ble_eq_true rfl) dX6_fewest_22 ⟨Nat.le_refl _, Nat.le_refl _⟩ hP hD hS (fun H locs hP hD hS => ?_)
      refine lv_aload_n hx hb dX6_fewest_25 rfl (lv_at hl 0 rfl) ?_
      refine va_get_w S hK hP _ c_SP rfl igX6 2 (by decide) q261 rfl rfl dX6_fewest_26 ?_
      refine lv_iload_n hx hb dX6_fewest_29 rfl (lv_at hl 1 rfl) ?_
      obtain ⟨r9, u8, e10, hF⟩ := bdI_some hF
      refine MM.callVi (m_X2_fewestRings e10) k_X6_176 S ecOK hEs hK ⟨by decide, by decide⟩ (va_recv hK hP rfl c_RI) rfl rfl hl.1 (Nat.le_of_ble_eq_true rfl) dX6_fewest_30 ⟨Nat.le_refl _, Nat.le_refl _⟩ hP hD hS (fun H locs hP hD hS => ?_)
      obtain ⟨rfl, rfl⟩ := sp_eq hF
      exact retI S hr hlocks hP hD hS dX6_fewest_33
    · have hF := ite_t hF c4
      refine lv_aload_n hx hb dX6_fewest_11 rfl (lv_at hl 0 rfl) ?_
      refine lv_ldc hx hb hown (hts _ q291) dX6_fewest_12 ?_
      obtain ⟨r12, u11, e13, hF⟩ := bdI_some hF
      refine MM.callVi (m_X6_found e13) k_X6_64 S ecOK hEs hK ⟨by decide, by decide⟩ (va_recv hK hP rfl c_SP) rfl rfl hl.1 (Nat.le_of_ble_eq_true rfl) dX6_fewest_14 ⟨Nat.le_refl _, Nat.le_refl _⟩ hP hD hS (fun H locs hP hD hS => ?_)
      obtain ⟨rfl, rfl⟩ := sp_eq hF
      exact retI S hr hlocks hP hD hS dX6_fewest_17
  have hl := lv_entry ([.ref (a 0), .int x1]) (n := 2) (Nat.le_of_ble_eq_true rfl)
  rw [lg_entry_eq]
  generalize (lg_sl ([.ref (a 0), .int x1]) ++ List.replicate (2 - (lg_sl ([.ref (a 0), .int x1])).length) Slot.unset).toArray = ls at hl ⊢
  exact b_main _ _ _ hP hD hS hl

set_option maxRecDepth 100000 in
set_option maxHeartbeats 4000000 in
theorem m_X2_loners  {x1 : Int32} {u u' : Mem} {r : Int32}  (hF : F_X2_loners  u x1 = some (r, u')) : MC l D cc a tU adK adV yX2_loners cX2_loners 4 (some .int) 1 21 [.ref (a 7), .int x1] u (some (.int r)) u' := by
  refine MM.ofW (by decide) (fun p e s m below meth c S hr hlocks hK hEs hP hD hS => ?_)
  have S : CallFix p m c cX2_loners 4 s _ gtbl RX2 := S
  obtain ⟨hx, hb, hml, hown, hts⟩ := id S
  have b40 : ∀ (k4 : Mem → Int32 → Int32 → Int32 → Option (Int32 × Mem)) (hk4 : ∀ (u : Mem) (v1 : Int32) (v2 : Int32) (v3 : Int32) , k4 u v1 v2 v3 = some (r, u') → BW p l e s m below meth c 1 21 [.ref (a 7), .int x1] D (AC a) (some (.int r)) (wlC cc a u') 4 (wlC cc a u) 4 [(0, .ref (a 7)), (1, .int v1), (2, .int v2), (3, .int v3)] []) (u : Mem) (v1 : Int32) (v2 : Int32) (v3 : Int32) , F_X2_loners_40 k4 u v1 v2 v3 = some (r, u') → BW p l e s m below meth c 1 21 [.ref (a 7), .int x1] D (AC a) (some (.int r)) (wlC cc a u') 4 (wlC cc a u) 40 [(0, .ref (a 7)), (1, .int v1), (2, .int v2), (3, .int v3)] [] := by
    intro k4 hk4 u v1 v2 v3 hF H locs ls hP hD hS hl
    unfold F_X2_loners_40 at hF
    refine lv_inc1 (k := 3) (lv' := [(3, .int _), (0, .ref _), (1, .int _), (2, .int _)]) hx hb dX2_loners_40 hl rfl (by decide) rfl (fun ls hl => ?_)
    refine lv_goto (tgt := 4) hx hb dX2_loners_43 (by decide) ?_
    exact hk4 _ _ _ _  hF H locs ls hP hD hS (lv_sub hl [1, 2, 3, 0] rfl)
  have b4 : ∀ (n : Nat) (u : Mem) (v1 : Int32) (v2 : Int32) (v3 : Int32) , F_X2_loners_4  n u v1 v2 v3 = some (r, u') → BW p l e s m below meth c 1 21 [.ref (a 7), .int x1] D (AC a) (some (.int r)) (wlC cc a u') 4 (wlC cc a u) 4 [(0, .ref (a 7)), (1, .int v1), (2, .int v2), (3, .int v3)] [] := by
    intro n
    induction n with
    | zero => intro u v1 v2 v3 hF; cases hF
    | succ n ih =>
      intro u v1 v2 v3 hF H locs ls hP hD hS hl
      unfold F_X2_loners_4 at hF
      refine lv_iload_n hx hb dX2_loners_4 rfl (lv_at hl 3 rfl) ?_
      refine lv_aload_n hx hb dX2_loners_5 rfl (lv_at hl 0 rfl) ?_
      refine va_get_w S hK hP _ c_RI rfl igX2 0 (by decide) q158 rfl rfl dX2_loners_6 ?_
      refine va_get_w S hK hP _ (c_AR ⟨by decide, by decide⟩) rfl igX0 1 (by decide) q139 rfl rfl dX2_loners_9 ?_
      refine lv_icmp_ge (tgt := 46) hx hb dX2_loners_12 (by decide) (fun c1 => ?_) (fun c1 => ?_)
      · have hF := ite_t hF c1
        refine lv_iload_n hx hb dX2_loners_46 rfl (lv_at hl 2 rfl) ?_
        obtain ⟨rfl, rfl⟩ := sp_eq hF
        exact retI S hr hlocks hP hD hS dX2_loners_47
      · have hF := ite_f hF c1
        refine lv_iload_n hx hb dX2_loners_15 rfl (lv_at hl 1 rfl) ?_
        refine lv_iload_n hx hb dX2_loners_16 rfl (lv_at hl 3 rfl) ?_
        obtain ⟨r3, u2, e4, hF⟩ := bdI_some hF
        refine MM.callSi (m_X2_isIn e4) k_X2_61 S ecOK hEs hK ⟨by decide, by decide⟩ rfl rfl hl.1 (Nat.le_of_ble_eq_true rfl) dX2_loners_17 ⟨Nat.le_refl _, Nat.le_refl _⟩ hP hD hS (fun H locs hP hD hS => ?_)
        refine lv_if_eq (tgt := 40) hx hb dX2_loners_20 (by decide) (fun c5 => ?_) (fun c5 => ?_)
        · have hF := ite_t hF c5
          exact b40 _ ih _ _ _ _  hF H locs ls hP hD hS (lv_sub hl [0, 1, 2, 3] rfl)
        · have hF := ite_f hF c5
          refine lv_iload_n hx hb dX2_loners_23 rfl (lv_at hl 1 rfl) ?_
          refine lv_aload_n hx hb dX2_loners_24 rfl (lv_at hl 0 rfl) ?_
          refine va_get_w S hK hP _ c_RI rfl igX2 2 (by decide) q160 rfl rfl dX2_loners_25 ?_
          refine lv_iload_n hx hb dX2_loners_28 rfl (lv_at hl 3 rfl) ?_
          obtain ⟨hin6, hF⟩ := gd_some hF
          refine cIald S hK hP ⟨rfl, by decide⟩ rfl hin6 dX2_loners_29 ?_
          refine lv_iand hx hb dX2_loners_30 ?_
          refine lv_if_ne (tgt := 40) hx hb dX2_loners_31 (by decide) (fun c7 => ?_) (fun c7 => ?_)
          · have hF := ite_f hF c7
            exact b40 _ ih _ _ _ _  hF H locs ls hP hD hS (lv_sub hl [0, 1, 2, 3] rfl)
          · have hF := ite_t hF c7
            refine lv_iload_n hx hb dX2_loners_34 rfl (lv_at hl 2 rfl) ?_
            refine lv_iconst (v := 1) hx hb dX2_loners_35 (by decide) ?_
            refine lv_iload_n hx hb dX2_loners_36 rfl (lv_at hl 3 rfl) ?_
            refine lv_ishl hx hb dX2_loners_37 ?_
            refine lv_ior hx hb dX2_loners_38 ?_
            refine lv_istore_n (lv' := [(2, .int _), (0, .ref _), (1, .int _), (3, .int _)]) hx hb dX2_loners_39 rfl hl (by decide) rfl (fun ls hl => ?_)
            exact b40 _ ih _ _ _ _  hF H locs ls hP hD hS (lv_sub hl [1, 2, 0, 3] rfl)
  unfold F_X2_loners at hF
  have b_main : BW p l e s m below meth c 1 21 [.ref (a 7), .int x1] D (AC a) (some (.int r)) (wlC cc a u') 4 (wlC cc a u) 0 [(0, .ref (a 7)), (1, .int x1)] [] := by
    intro H locs ls hP hD hS hl
    refine lv_iconst (v := 0) hx hb dX2_loners_0 (by decide) ?_
    refine lv_istore_n (lv' := [(2, .int _), (0, .ref _), (1, .int _)]) hx hb dX2_loners_1 rfl hl (by decide) rfl (fun ls hl => ?_)
    refine lv_iconst (v := 0) hx hb dX2_loners_2 (by decide) ?_
    refine lv_istore_n (lv' := [(3, .int _), (2, .int _), (0, .ref _), (1, .int _)]) hx hb dX2_loners_3 rfl hl (by decide) rfl (fun ls hl => ?_)
    exact b4 _ _ _ _ _  hF H locs ls hP hD hS (lv_sub hl [2, 3, 1, 0] rfl)
  have hl := lv_entry ([.ref (a 7), .int x1]) (n := 4) (Nat.le_of_ble_eq_true rfl)
  rw [lg_entry_eq]
  generalize (lg_sl ([.ref (a 7), .int x1]) ++ List.replicate (4 - (lg_sl ([.ref (a 7), .int x1])).length) Slot.unset).toArray = ls at hl ⊢
  exact b_main _ _ _ hP hD hS hl

set_option maxRecDepth 100000 in
set_option maxHeartbeats 4000000 in
theorem m_X6_alone  {x1 : Int32} {u u' : Mem} {r : Int32}  (hF : F_X6_alone  u x1 = some (r, u')) : MC l D cc a tU adK adV yX6_alone cX6_alone 2 (some .int) 5 116 [.ref (a 0), .int x1] u (some (.int r)) u' := by
  refine MM.ofW (by decide) (fun p e s m below meth c S hr hlocks hK hEs hP hD hS => ?_)
  have S : CallFix p m c cX6_alone 2 s _ gtbl RX6 := S
  obtain ⟨hx, hb, hml, hown, hts⟩ := id S
  unfold F_X6_alone at hF
  have b_main : BW p l e s m below meth c 5 116 [.ref (a 0), .int x1] D (AC a) (some (.int r)) (wlC cc a u') 2 (wlC cc a u) 0 [(0, .ref (a 0)), (1, .int x1)] [] := by
    intro H locs ls hP hD hS hl
    refine lv_aload_n hx hb dX6_alone_0 rfl (lv_at hl 0 rfl) ?_
    refine va_get_w S hK hP _ c_SP rfl igX6 0 (by decide) q259 rfl rfl dX6_alone_1 ?_
    refine lv_iload_n hx hb dX6_alone_4 rfl (lv_at hl 1 rfl) ?_
    obtain ⟨r2, u1, e3, hF⟩ := bdI_some hF
    refine MM.callVi (m_X0_hasAll ⟨by decide, by decide⟩ e3) k_X6_160 S ecOK hEs hK ⟨by decide, by decide⟩ (va_recv hK hP rfl (c_AR ⟨by decide, by decide⟩)) rfl rfl hl.1 (Nat.le_of_ble_eq_true rfl) dX6_alone_5 ⟨Nat.le_refl _, Nat.le_refl _⟩ hP hD hS (fun H locs hP hD hS => ?_)
    refine lv_if_ne (tgt := 18) hx hb dX6_alone_8 (by decide) (fun c4 => ?_) (fun c4 => ?_)
    · have hF := ite_f hF c4
      refine lv_aload_n hx hb dX6_alone_18 rfl (lv_at hl 0 rfl) ?_
      refine va_get_w S hK hP _ c_SP rfl igX6 2 (by decide) q261 rfl rfl dX6_alone_19 ?_
      obtain ⟨u5, e7, hF⟩ := bdV_some hF
      refine MM.callVv (m_X2_weigh e7) k_X6_163 S ecOK hEs hK ⟨by decide, by decide⟩ (va_recv hK hP rfl c_RI) rfl rfl hl.1 (Nat.le_of_ble_eq_true rfl) dX6_alone_22 ⟨Nat.le_refl _, Nat.le_refl _⟩ hP hD hS (fun H locs hP hD hS => ?_)
      refine lv_aload_n hx hb dX6_alone_25 rfl (lv_at hl 0 rfl) ?_
      refine va_get_w S hK hP _ c_SP rfl igX6 2 (by decide) q261 rfl rfl dX6_alone_26 ?_
      refine lv_iload_n hx hb dX6_alone_29 rfl (lv_at hl 1 rfl) ?_
      obtain ⟨r9, u8, e10, hF⟩ := bdI_some hF
      refine MM.callVi (m_X2_loners e10) k_X6_179 S ecOK hEs hK ⟨by decide, by decide⟩ (va_recv hK hP rfl c_RI) rfl rfl hl.1 (Nat.le_of_ble_eq_true rfl) dX6_alone_30 ⟨Nat.le_refl _, Nat.le_refl _⟩ hP hD hS (fun H locs hP hD hS => ?_)
      obtain ⟨rfl, rfl⟩ := sp_eq hF
      exact retI S hr hlocks hP hD hS dX6_alone_33
    · have hF := ite_t hF c4
      refine lv_aload_n hx hb dX6_alone_11 rfl (lv_at hl 0 rfl) ?_
      refine lv_ldc hx hb hown (hts _ q291) dX6_alone_12 ?_
      obtain ⟨r12, u11, e13, hF⟩ := bdI_some hF
      refine MM.callVi (m_X6_found e13) k_X6_64 S ecOK hEs hK ⟨by decide, by decide⟩ (va_recv hK hP rfl c_SP) rfl rfl hl.1 (Nat.le_of_ble_eq_true rfl) dX6_alone_14 ⟨Nat.le_refl _, Nat.le_refl _⟩ hP hD hS (fun H locs hP hD hS => ?_)
      obtain ⟨rfl, rfl⟩ := sp_eq hF
      exact retI S hr hlocks hP hD hS dX6_alone_17
  have hl := lv_entry ([.ref (a 0), .int x1]) (n := 2) (Nat.le_of_ble_eq_true rfl)
  rw [lg_entry_eq]
  generalize (lg_sl ([.ref (a 0), .int x1]) ++ List.replicate (2 - (lg_sl ([.ref (a 0), .int x1])).length) Slot.unset).toArray = ls at hl ⊢
  exact b_main _ _ _ hP hD hS hl

set_option maxRecDepth 100000 in
set_option maxHeartbeats 4000000 in
theorem m_X2_gatherMembers  {x1 : Int32} {u u' : Mem}  (hF : F_X2_gatherMembers  u x1 = some u') : MC l D cc a tU adK adV yX2_gatherMembers cX2_gatherMembers 4 none 1 24 [.ref (a 7), .int x1] u none u' := by
  refine MM.ofW (by decide) (fun p e s m below meth c S hr hlocks hK hEs hP hD hS => ?_)
  have S : CallFix p m c cX2_gatherMembers 4 s _ gtbl RX2 := S
  obtain ⟨hx, hb, hml, hown, hts⟩ := id S
  have b73 : ∀ (k63 : Mem → Int32 → Option Mem) (hk63 : ∀ (u : Mem) (v2 : Int32) , k63 u v2 = some u' → BW p l e s m below meth c 1 24 [.ref (a 7), .int x1] D (AC a) none (wlC cc a u') 4 (wlC cc a u) 63 [(0, .ref (a 7)), (2, .int v2)] []), ∀ (n : Nat) (u : Mem) (v2 : Int32) (v3 : Int32) , F_X2_gatherMembers_73 k63 n u v2 v3 = some u' → BW p l e s m below meth c 1 24 [.ref (a 7), .int x1] D (AC a) none (wlC cc a u') 4 (wlC cc a u) 73 [(0, .ref (a 7)), (2, .int v2), (3, .int v3)] [] := by
    intro k63 hk63
    intro n
    induction n with
    | zero => intro u v2 v3 hF; cases hF
    | succ n ih =>
      intro u v2 v3 hF H locs ls hP hD hS hl
      unfold F_X2_gatherMembers_73 at hF
      refine lv_iload_n hx hb dX2_gatherMembers_73 rfl (lv_at hl 2 rfl) ?_
      refine lv_aload_n hx hb dX2_gatherMembers_74 rfl (lv_at hl 0 rfl) ?_
      refine va_get_w S hK hP _ c_RI rfl igX2 10 (by decide) q168 rfl rfl dX2_gatherMembers_75 ?_
      refine lv_icmp_ge (tgt := 116) hx hb dX2_gatherMembers_78 (by decide) (fun c1 => ?_) (fun c1 => ?_)
      · have hF := ite_t hF c1
        refine lv_inc1 (k := 1) (lv' := [(2, .int _), (0, .ref _), (3, .int _)]) hx hb dX2_gatherMembers_116 hl rfl (by decide) rfl (fun ls hl => ?_)
        refine lv_goto (tgt := 63) hx hb dX2_gatherMembers_119 (by decide) ?_
        exact hk63 _ _  hF H locs ls hP hD hS (lv_sub hl [1, 0] rfl)
      · have hF := ite_f hF c1
        refine lv_aload_n hx hb dX2_gatherMembers_81 rfl (lv_at hl 0 rfl) ?_
        refine va_get_w S hK hP _ c_RI rfl igX2 6 (by decide) q164 rfl rfl dX2_gatherMembers_82 ?_
        refine lv_iload_n hx hb dX2_gatherMembers_85 rfl (lv_at hl 1 rfl) ?_
        refine lv_iload_n hx hb dX2_gatherMembers_86 rfl (lv_at hl 2 rfl) ?_
        refine lv_aload_n hx hb dX2_gatherMembers_87 rfl (lv_at hl 0 rfl) ?_
        refine va_get_w S hK hP _ c_RI rfl igX2 1 (by decide) q159 rfl rfl dX2_gatherMembers_88 ?_
        refine lv_aload_n hx hb dX2_gatherMembers_91 rfl (lv_at hl 0 rfl) ?_
        refine va_get_w S hK hP _ c_RI rfl igX2 5 (by decide) q163 rfl rfl dX2_gatherMembers_92 ?_
        refine lv_iload_n hx hb dX2_gatherMembers_95 rfl (lv_at hl 1 rfl) ?_
        obtain ⟨hin2, hF⟩ := gd_some hF
        refine cIald S hK hP ⟨rfl, by decide⟩ rfl hin2 dX2_gatherMembers_96 ?_
        obtain ⟨hin3, hF⟩ := gd_some hF
        refine cIald S hK hP ⟨rfl, by decide⟩ rfl hin3 dX2_gatherMembers_97 ?_
        refine lv_aload_n hx hb dX2_gatherMembers_98 rfl (lv_at hl 0 rfl) ?_
        refine va_get_w S hK hP _ c_RI rfl igX2 5 (by decide) q163 rfl rfl dX2_gatherMembers_99 ?_
        refine lv_iload_n hx hb dX2_gatherMembers_102 rfl (lv_at hl 2 rfl) ?_
        obtain ⟨hin4, hF⟩ := gd_some hF
        refine cIald S hK hP ⟨rfl, by decide⟩ rfl hin4 dX2_gatherMembers_103 ?_
        obtain ⟨r6, u5, e7, hF⟩ := bdI_some hF
        refine MM.callSi (m_X2_isIn e7) k_X2_61 S ecOK hEs hK ⟨by decide, by decide⟩ rfl rfl hl.1 (Nat.le_of_ble_eq_true rfl) dX2_gatherMembers_104 ⟨Nat.le_refl _, Nat.le_refl _⟩ hP hD hS (fun H locs hP hD hS => ?_)
        obtain ⟨u8, e10, hF⟩ := bdV_some hF
        refine MM.callSv (m_X2_note ⟨rfl, by decide⟩ e10) k_X2_57 S ecOK hEs hK ⟨by decide, by decide⟩ rfl rfl hl.1 (Nat.le_of_ble_eq_true rfl) dX2_gatherMembers_107 ⟨Nat.le_refl _, Nat.le_refl _⟩ hP hD hS (fun H locs hP hD hS => ?_)
        refine lv_inc1 (k := 2) (lv' := [(3, .int _), (0, .ref _), (2, .int _)]) hx hb dX2_gatherMembers_110 hl rfl (by decide) rfl (fun ls hl => ?_)
        refine lv_goto (tgt := 73) hx hb dX2_gatherMembers_113 (by decide) ?_
        exact ih _ _ _  hF H locs ls hP hD hS (lv_sub hl [1, 2, 0] rfl)
  have b63 : ∀ (n : Nat) (u : Mem) (v2 : Int32) , F_X2_gatherMembers_63  n u v2 = some u' → BW p l e s m below meth c 1 24 [.ref (a 7), .int x1] D (AC a) none (wlC cc a u') 4 (wlC cc a u) 63 [(0, .ref (a 7)), (2, .int v2)] [] := by
    intro n
    induction n with
    | zero => intro u v2 hF; cases hF
    | succ n ih =>
      intro u v2 hF H locs ls hP hD hS hl
      unfold F_X2_gatherMembers_63 at hF
      refine lv_iload_n hx hb dX2_gatherMembers_63 rfl (lv_at hl 1 rfl) ?_
      refine lv_aload_n hx hb dX2_gatherMembers_64 rfl (lv_at hl 0 rfl) ?_
      refine va_get_w S hK hP _ c_RI rfl igX2 10 (by decide) q168 rfl rfl dX2_gatherMembers_65 ?_
      refine lv_icmp_ge (tgt := 122) hx hb dX2_gatherMembers_68 (by decide) (fun c11 => ?_) (fun c11 => ?_)
      · have hF := ite_t hF c11
        obtain rfl := sv_eq hF
        exact retV S hr hlocks hP hD hS dX2_gatherMembers_122
      · have hF := ite_f hF c11
        refine lv_iconst (v := 0) hx hb dX2_gatherMembers_71 (by decide) ?_
        refine lv_istore_n (lv' := [(3, .int _), (0, .ref _), (2, .int _)]) hx hb dX2_gatherMembers_72 rfl hl (by decide) rfl (fun ls hl => ?_)
        exact b73 _ ih _ _ _ _  hF H locs ls hP hD hS (lv_sub hl [1, 2, 0] rfl)
  have b61 : ∀  (u : Mem)  , F_X2_gatherMembers_61  u  = some u' → BW p l e s m below meth c 1 24 [.ref (a 7), .int x1] D (AC a) none (wlC cc a u') 4 (wlC cc a u) 61 [(0, .ref (a 7))] [] := by
    intro  u  hF H locs ls hP hD hS hl
    unfold F_X2_gatherMembers_61 at hF
    refine lv_iconst (v := 0) hx hb dX2_gatherMembers_61 (by decide) ?_
    refine lv_istore_n (lv' := [(2, .int _), (0, .ref _)]) hx hb dX2_gatherMembers_62 rfl hl (by decide) rfl (fun ls hl => ?_)
    exact b63 _ _ _  hF H locs ls hP hD hS (lv_sub hl [1, 0] rfl)
  have b55 : ∀ (k7 : Mem → Int32 → Int32 → Option Mem) (hk7 : ∀ (u : Mem) (v1 : Int32) (v2 : Int32) , k7 u v1 v2 = some u' → BW p l e s m below meth c 1 24 [.ref (a 7), .int x1] D (AC a) none (wlC cc a u') 4 (wlC cc a u) 7 [(0, .ref (a 7)), (1, .int v1), (2, .int v2)] []) (u : Mem) (v1 : Int32) (v2 : Int32) , F_X2_gatherMembers_55 k7 u v1 v2 = some u' → BW p l e s m below meth c 1 24 [.ref (a 7), .int x1] D (AC a) none (wlC cc a u') 4 (wlC cc a u) 55 [(0, .ref (a 7)), (1, .int v1), (2, .int v2)] [] := by
    intro k7 hk7 u v1 v2 hF H locs ls hP hD hS hl
    unfold F_X2_gatherMembers_55 at hF
    refine lv_inc1 (k := 2) (lv' := [(2, .int _), (0, .ref _), (1, .int _)]) hx hb dX2_gatherMembers_55 hl rfl (by decide) rfl (fun ls hl => ?_)
    refine lv_goto (tgt := 7) hx hb dX2_gatherMembers_58 (by decide) ?_
    exact hk7 _ _ _  hF H locs ls hP hD hS (lv_sub hl [1, 2, 0] rfl)
  have b7 : ∀ (n : Nat) (u : Mem) (v1 : Int32) (v2 : Int32) , F_X2_gatherMembers_7  n u v1 v2 = some u' → BW p l e s m below meth c 1 24 [.ref (a 7), .int x1] D (AC a) none (wlC cc a u') 4 (wlC cc a u) 7 [(0, .ref (a 7)), (1, .int v1), (2, .int v2)] [] := by
    intro n
    induction n with
    | zero => intro u v1 v2 hF; cases hF
    | succ n ih =>
      intro u v1 v2 hF H locs ls hP hD hS hl
      unfold F_X2_gatherMembers_7 at hF
      refine lv_iload_n hx hb dX2_gatherMembers_7 rfl (lv_at hl 2 rfl) ?_
      refine lv_aload_n hx hb dX2_gatherMembers_8 rfl (lv_at hl 0 rfl) ?_
      refine va_get_w S hK hP _ c_RI rfl igX2 0 (by decide) q158 rfl rfl dX2_gatherMembers_9 ?_
      refine va_get_w S hK hP _ (c_AR ⟨by decide, by decide⟩) rfl igX0 1 (by decide) q139 rfl rfl dX2_gatherMembers_12 ?_
      refine lv_icmp_ge (tgt := 61) hx hb dX2_gatherMembers_15 (by decide) (fun c12 => ?_) (fun c12 => ?_)
      · have hF := ite_t hF c12
        exact b61 _  hF H locs ls hP hD hS (lv_sub hl [0] rfl)
      · have hF := ite_f hF c12
        refine lv_aload_n hx hb dX2_gatherMembers_18 rfl (lv_at hl 0 rfl) ?_
        refine va_get_w S hK hP _ c_RI rfl igX2 10 (by decide) q168 rfl rfl dX2_gatherMembers_19 ?_
        refine lv_bipush (v := 8) hx hb dX2_gatherMembers_22 (by decide) ?_
        refine lv_icmp_ge (tgt := 61) hx hb dX2_gatherMembers_24 (by decide) (fun c13 => ?_) (fun c13 => ?_)
        · have hF := ite_t hF c13
          exact b61 _  hF H locs ls hP hD hS (lv_sub hl [0] rfl)
        · have hF := ite_f hF c13
          refine lv_iload_n hx hb dX2_gatherMembers_27 rfl (lv_at hl 1 rfl) ?_
          refine lv_iload_n hx hb dX2_gatherMembers_28 rfl (lv_at hl 2 rfl) ?_
          obtain ⟨r15, u14, e16, hF⟩ := bdI_some hF
          refine MM.callSi (m_X2_isIn e16) k_X2_61 S ecOK hEs hK ⟨by decide, by decide⟩ rfl rfl hl.1 (Nat.le_of_ble_eq_true rfl) dX2_gatherMembers_29 ⟨Nat.le_refl _, Nat.le_refl _⟩ hP hD hS (fun H locs hP hD hS => ?_)
          refine lv_if_eq (tgt := 55) hx hb dX2_gatherMembers_32 (by decide) (fun c17 => ?_) (fun c17 => ?_)
          · have hF := ite_t hF c17
            exact b55 _ ih _ _ _  hF H locs ls hP hD hS (lv_sub hl [0, 1, 2] rfl)
          · have hF := ite_f hF c17
            refine lv_aload_n hx hb dX2_gatherMembers_35 rfl (lv_at hl 0 rfl) ?_
            refine va_get_w S hK hP _ c_RI rfl igX2 5 (by decide) q163 rfl rfl dX2_gatherMembers_36 ?_
            refine lv_aload_n hx hb dX2_gatherMembers_39 rfl (lv_at hl 0 rfl) ?_
            refine va_get_w S hK hP _ c_RI rfl igX2 10 (by decide) q168 rfl rfl dX2_gatherMembers_40 ?_
            refine lv_iload_n hx hb dX2_gatherMembers_43 rfl (lv_at hl 2 rfl) ?_
            obtain ⟨hin18, hF⟩ := gd_some hF
            refine cIast S hK hP hD hS ⟨rfl, by decide⟩ rfl hin18 dX2_gatherMembers_44 (fun H locs hP hD hS => ?_)
            refine lv_aload_n hx hb dX2_gatherMembers_45 rfl (lv_at hl 0 rfl) ?_
            refine lv_dup hx hb dX2_gatherMembers_46 rfl ?_
            refine va_get_w S hK hP _ c_RI rfl igX2 10 (by decide) q168 rfl rfl dX2_gatherMembers_47 ?_
            refine lv_iconst (v := 1) hx hb dX2_gatherMembers_50 (by decide) ?_
            refine lv_iadd hx hb dX2_gatherMembers_51 ?_
            refine va_put_w S igX2 tyX2 tyX2_ok nmX2 hK hP hD hS _ c_RI rfl 10 (by decide) q168 rfl rfl (tyX2_ok 10 (by decide)) rfl rfl (Nat.le_of_ble_eq_true rfl) (z_RI (by decide)) dX2_gatherMembers_52 (fun H locs hP hD hS => ?_)
            obtain ⟨u19, e20, hF⟩ := bdV_some hF
            obtain rfl := sv_eq e20
            exact b55 _ ih _ _ _  hF H locs ls hP hD hS (lv_sub hl [0, 1, 2] rfl)
  unfold F_X2_gatherMembers at hF
  have b_main : BW p l e s m below meth c 1 24 [.ref (a 7), .int x1] D (AC a) none (wlC cc a u') 4 (wlC cc a u) 0 [(0, .ref (a 7)), (1, .int x1)] [] := by
    intro H locs ls hP hD hS hl
    refine lv_aload_n hx hb dX2_gatherMembers_0 rfl (lv_at hl 0 rfl) ?_
    refine lv_iconst (v := 0) hx hb dX2_gatherMembers_1 (by decide) ?_
    refine va_put_w S igX2 tyX2 tyX2_ok nmX2 hK hP hD hS _ c_RI rfl 10 (by decide) q168 rfl rfl (tyX2_ok 10 (by decide)) rfl rfl (Nat.le_of_ble_eq_true rfl) (z_RI (by decide)) dX2_gatherMembers_2 (fun H locs hP hD hS => ?_)
    refine lv_iconst (v := 0) hx hb dX2_gatherMembers_5 (by decide) ?_
    refine lv_istore_n (lv' := [(2, .int _), (0, .ref _), (1, .int _)]) hx hb dX2_gatherMembers_6 rfl hl (by decide) rfl (fun ls hl => ?_)
    exact b7 _ _ _ _  hF H locs ls hP hD hS (lv_sub hl [1, 2, 0] rfl)
  have hl := lv_entry ([.ref (a 7), .int x1]) (n := 4) (Nat.le_of_ble_eq_true rfl)
  rw [lg_entry_eq]
  generalize (lg_sl ([.ref (a 7), .int x1]) ++ List.replicate (4 - (lg_sl ([.ref (a 7), .int x1])).length) Slot.unset).toArray = ls at hl ⊢
  exact b_main _ _ _ hP hD hS hl

set_option maxRecDepth 100000 in
set_option maxHeartbeats 4000000 in
theorem m_X2_canLead  {x1 : Int32} {x2 : Int32} {u u' : Mem} {r : Int32}  (hF : F_X2_canLead  u x1 x2 = some (r, u')) : MC l D cc a tU adK adV yX2_canLead cX2_canLead 3 (some .boolean) 0 0 [.ref (a 7), .int x1, .int x2] u (some (.int r)) u' := by
  refine MM.ofW (by decide) (fun p e s m below meth c S hr hlocks hK hEs hP hD hS => ?_)
  have S : CallFix p m c cX2_canLead 3 s _ gtbl RX2 := S
  obtain ⟨hx, hb, hml, hown, hts⟩ := id S
  have b18 : ∀  (u : Mem) (y0 : Int32) , F_X2_canLead_18  u y0 = some (r, u') → BW p l e s m below meth c 0 0 [.ref (a 7), .int x1, .int x2] D (AC a) (some (.int r)) (wlC cc a u') 3 (wlC cc a u) 18 [] [.int y0] := by
    intro  u y0 hF H locs ls hP hD hS hl
    unfold F_X2_canLead_18 at hF
    obtain ⟨hz1, hF⟩ := gz_some hF
    obtain ⟨rfl, rfl⟩ := sp_eq hF
    exact retZ S hr hlocks hP hD hS hz1 dX2_canLead_18
  unfold F_X2_canLead at hF
  have b_main : BW p l e s m below meth c 0 0 [.ref (a 7), .int x1, .int x2] D (AC a) (some (.int r)) (wlC cc a u') 3 (wlC cc a u) 0 [(0, .ref (a 7)), (1, .int x1), (2, .int x2)] [] := by
    intro H locs ls hP hD hS hl
    refine lv_iload_n hx hb dX2_canLead_0 rfl (lv_at hl 2 rfl) ?_
    refine lv_aload_n hx hb dX2_canLead_1 rfl (lv_at hl 0 rfl) ?_
    refine va_get_w S hK hP _ c_RI rfl igX2 6 (by decide) q164 rfl rfl dX2_canLead_2 ?_
    refine lv_iload_n hx hb dX2_canLead_5 rfl (lv_at hl 1 rfl) ?_
    obtain ⟨hin2, hF⟩ := gd_some hF
    refine cIald S hK hP ⟨rfl, by decide⟩ rfl hin2 dX2_canLead_6 ?_
    refine lv_iconst (v := -1) hx hb dX2_canLead_7 (by decide) ?_
    refine lv_ixor hx hb dX2_canLead_8 ?_
    refine lv_iand hx hb dX2_canLead_9 ?_
    refine lv_if_ne (tgt := 17) hx hb dX2_canLead_10 (by decide) (fun c3 => ?_) (fun c3 => ?_)
    · have hF := ite_f hF c3
      refine lv_iconst (v := 0) hx hb dX2_canLead_17 (by decide) ?_
      exact b18 _ _  hF H locs ls hP hD hS (lv_sub hl [] rfl)
    · have hF := ite_t hF c3
      refine lv_iconst (v := 1) hx hb dX2_canLead_13 (by decide) ?_
      refine lv_goto (tgt := 18) hx hb dX2_canLead_14 (by decide) ?_
      exact b18 _ _  hF H locs ls hP hD hS (lv_sub hl [] rfl)
  have hl := lv_entry ([.ref (a 7), .int x1, .int x2]) (n := 3) (Nat.le_of_ble_eq_true rfl)
  rw [lg_entry_eq]
  generalize (lg_sl ([.ref (a 7), .int x1, .int x2]) ++ List.replicate (3 - (lg_sl ([.ref (a 7), .int x1, .int x2])).length) Slot.unset).toArray = ls at hl ⊢
  exact b_main _ _ _ hP hD hS hl

set_option maxRecDepth 100000 in
set_option maxHeartbeats 4000000 in
theorem m_X2_countOrders  {x1 : Int32} {u u' : Mem}  (hF : F_X2_countOrders  u x1 = some u') : MC l D cc a tU adK adV yX2_countOrders cX2_countOrders 5 none 2 47 [.ref (a 7), .int x1] u none u' := by
  refine MM.ofW (by decide) (fun p e s m below meth c S hr hlocks hK hEs hP hD hS => ?_)
  have S : CallFix p m c cX2_countOrders 5 s _ gtbl RX2 := S
  obtain ⟨hx, hb, hml, hown, hts⟩ := id S
  have b76 : ∀ (k29 : Mem → Int32 → Int32 → Int32 → Option Mem) (hk29 : ∀ (u : Mem) (v2 : Int32) (v3 : Int32) (v4 : Int32) , k29 u v2 v3 v4 = some u' → BW p l e s m below meth c 2 47 [.ref (a 7), .int x1] D (AC a) none (wlC cc a u') 5 (wlC cc a u) 29 [(0, .ref (a 7)), (2, .int v2), (3, .int v3), (4, .int v4)] []) (u : Mem) (v2 : Int32) (v3 : Int32) (v4 : Int32) , F_X2_countOrders_76 k29 u v2 v3 v4 = some u' → BW p l e s m below meth c 2 47 [.ref (a 7), .int x1] D (AC a) none (wlC cc a u') 5 (wlC cc a u) 76 [(0, .ref (a 7)), (2, .int v2), (3, .int v3), (4, .int v4)] [] := by
    intro k29 hk29 u v2 v3 v4 hF H locs ls hP hD hS hl
    unfold F_X2_countOrders_76 at hF
    refine lv_inc1 (k := 3) (lv' := [(4, .int _), (0, .ref _), (2, .int _), (3, .int _)]) hx hb dX2_countOrders_76 hl rfl (by decide) rfl (fun ls hl => ?_)
    refine lv_goto (tgt := 29) hx hb dX2_countOrders_79 (by decide) ?_
    exact hk29 _ _ _ _  hF H locs ls hP hD hS (lv_sub hl [1, 2, 3, 0] rfl)
  have b29 : ∀ (k14 : Mem → Int32 → Option Mem) (hk14 : ∀ (u : Mem) (v2 : Int32) , k14 u v2 = some u' → BW p l e s m below meth c 2 47 [.ref (a 7), .int x1] D (AC a) none (wlC cc a u') 5 (wlC cc a u) 14 [(0, .ref (a 7)), (2, .int v2)] []), ∀ (n : Nat) (u : Mem) (v2 : Int32) (v3 : Int32) (v4 : Int32) , F_X2_countOrders_29 k14 n u v2 v3 v4 = some u' → BW p l e s m below meth c 2 47 [.ref (a 7), .int x1] D (AC a) none (wlC cc a u') 5 (wlC cc a u) 29 [(0, .ref (a 7)), (2, .int v2), (3, .int v3), (4, .int v4)] [] := by
    intro k14 hk14
    intro n
    induction n with
    | zero => intro u v2 v3 v4 hF; cases hF
    | succ n ih =>
      intro u v2 v3 v4 hF H locs ls hP hD hS hl
      unfold F_X2_countOrders_29 at hF
      refine lv_iload hx hb dX2_countOrders_29 (lv_at hl 3 rfl) ?_
      refine lv_aload_n hx hb dX2_countOrders_31 rfl (lv_at hl 0 rfl) ?_
      refine va_get_w S hK hP _ c_RI rfl igX2 10 (by decide) q168 rfl rfl dX2_countOrders_32 ?_
      refine lv_icmp_ge (tgt := 82) hx hb dX2_countOrders_35 (by decide) (fun c1 => ?_) (fun c1 => ?_)
      · have hF := ite_t hF c1
        refine lv_aload_n hx hb dX2_countOrders_82 rfl (lv_at hl 0 rfl) ?_
        refine va_get_w S hK hP _ c_RI rfl igX2 7 (by decide) q165 rfl rfl dX2_countOrders_83 ?_
        refine lv_iload_n hx hb dX2_countOrders_86 rfl (lv_at hl 1 rfl) ?_
        refine lv_iload_n hx hb dX2_countOrders_87 rfl (lv_at hl 2 rfl) ?_
        obtain ⟨hin2, hF⟩ := gd_some hF
        refine cIast S hK hP hD hS ⟨rfl, by decide⟩ rfl hin2 dX2_countOrders_88 (fun H locs hP hD hS => ?_)
        refine lv_inc1 (k := 1) (lv' := [(2, .int _), (0, .ref _), (3, .int _), (4, .int _)]) hx hb dX2_countOrders_89 hl rfl (by decide) rfl (fun ls hl => ?_)
        refine lv_goto (tgt := 14) hx hb dX2_countOrders_92 (by decide) ?_
        exact hk14 _ _  hF H locs ls hP hD hS (lv_sub hl [1, 0] rfl)
      · have hF := ite_f hF c1
        refine lv_iload_n hx hb dX2_countOrders_38 rfl (lv_at hl 1 rfl) ?_
        refine lv_iload hx hb dX2_countOrders_39 (lv_at hl 3 rfl) ?_
        obtain ⟨r4, u3, e5, hF⟩ := bdI_some hF
        refine MM.callSi (m_X2_isIn e5) k_X2_61 S ecOK hEs hK ⟨by decide, by decide⟩ rfl rfl hl.1 (Nat.le_of_ble_eq_true rfl) dX2_countOrders_41 ⟨Nat.le_refl _, Nat.le_refl _⟩ hP hD hS (fun H locs hP hD hS => ?_)
        refine lv_if_eq (tgt := 76) hx hb dX2_countOrders_44 (by decide) (fun c6 => ?_) (fun c6 => ?_)
        · have hF := ite_t hF c6
          exact b76 _ ih _ _ _ _  hF H locs ls hP hD hS (lv_sub hl [0, 1, 2, 3] rfl)
        · have hF := ite_f hF c6
          refine lv_aload_n hx hb dX2_countOrders_47 rfl (lv_at hl 0 rfl) ?_
          refine lv_iload hx hb dX2_countOrders_48 (lv_at hl 3 rfl) ?_
          refine lv_iload_n hx hb dX2_countOrders_50 rfl (lv_at hl 1 rfl) ?_
          refine lv_iload hx hb dX2_countOrders_51 (lv_at hl 3 rfl) ?_
          obtain ⟨r8, u7, e9, hF⟩ := bdI_some hF
          refine MM.callSi (m_X2_without e9) k_X2_64 S ecOK hEs hK ⟨by decide, by decide⟩ rfl rfl hl.1 (Nat.le_of_ble_eq_true rfl) dX2_countOrders_53 ⟨Nat.le_refl _, Nat.le_refl _⟩ hP hD hS (fun H locs hP hD hS => ?_)
          obtain ⟨r11, u10, e12, hF⟩ := bdI_some hF
          refine MM.callVi (m_X2_canLead e12) k_X2_97 S ecOK hEs hK ⟨by decide, by decide⟩ (va_recv hK hP rfl c_RI) rfl rfl hl.1 (Nat.le_of_ble_eq_true rfl) dX2_countOrders_56 ⟨Nat.le_refl _, Nat.le_refl _⟩ hP hD hS (fun H locs hP hD hS => ?_)
          refine lv_if_eq (tgt := 76) hx hb dX2_countOrders_59 (by decide) (fun c13 => ?_) (fun c13 => ?_)
          · have hF := ite_t hF c13
            exact b76 _ ih _ _ _ _  hF H locs ls hP hD hS (lv_sub hl [0, 1, 2, 3] rfl)
          · have hF := ite_f hF c13
            refine lv_iload_n hx hb dX2_countOrders_62 rfl (lv_at hl 2 rfl) ?_
            refine lv_aload_n hx hb dX2_countOrders_63 rfl (lv_at hl 0 rfl) ?_
            refine va_get_w S hK hP _ c_RI rfl igX2 7 (by decide) q165 rfl rfl dX2_countOrders_64 ?_
            refine lv_iload_n hx hb dX2_countOrders_67 rfl (lv_at hl 1 rfl) ?_
            refine lv_iload hx hb dX2_countOrders_68 (lv_at hl 3 rfl) ?_
            obtain ⟨r15, u14, e16, hF⟩ := bdI_some hF
            refine MM.callSi (m_X2_without e16) k_X2_64 S ecOK hEs hK ⟨by decide, by decide⟩ rfl rfl hl.1 (Nat.le_of_ble_eq_true rfl) dX2_countOrders_70 ⟨Nat.le_refl _, Nat.le_refl _⟩ hP hD hS (fun H locs hP hD hS => ?_)
            obtain ⟨hin17, hF⟩ := gd_some hF
            refine cIald S hK hP ⟨rfl, by decide⟩ rfl hin17 dX2_countOrders_73 ?_
            refine lv_iadd hx hb dX2_countOrders_74 ?_
            refine lv_istore_n (lv' := [(3, .int _), (0, .ref _), (2, .int _), (4, .int _)]) hx hb dX2_countOrders_75 rfl hl (by decide) rfl (fun ls hl => ?_)
            exact b76 _ ih _ _ _ _  hF H locs ls hP hD hS (lv_sub hl [1, 2, 0, 3] rfl)
  have b14 : ∀ (n : Nat) (u : Mem) (v2 : Int32) , F_X2_countOrders_14  n u v2 = some u' → BW p l e s m below meth c 2 47 [.ref (a 7), .int x1] D (AC a) none (wlC cc a u') 5 (wlC cc a u) 14 [(0, .ref (a 7)), (2, .int v2)] [] := by
    intro n
    induction n with
    | zero => intro u v2 hF; cases hF
    | succ n ih =>
      intro u v2 hF H locs ls hP hD hS hl
      unfold F_X2_countOrders_14 at hF
      refine lv_iload_n hx hb dX2_countOrders_14 rfl (lv_at hl 1 rfl) ?_
      refine lv_iconst (v := 1) hx hb dX2_countOrders_15 (by decide) ?_
      refine lv_aload_n hx hb dX2_countOrders_16 rfl (lv_at hl 0 rfl) ?_
      refine va_get_w S hK hP _ c_RI rfl igX2 10 (by decide) q168 rfl rfl dX2_countOrders_17 ?_
      refine lv_ishl hx hb dX2_countOrders_20 ?_
      refine lv_icmp_ge (tgt := 95) hx hb dX2_countOrders_21 (by decide) (fun c18 => ?_) (fun c18 => ?_)
      · have hF := ite_t hF c18
        obtain rfl := sv_eq hF
        exact retV S hr hlocks hP hD hS dX2_countOrders_95
      · have hF := ite_f hF c18
        refine lv_iconst (v := 0) hx hb dX2_countOrders_24 (by decide) ?_
        refine lv_istore_n (lv' := [(3, .int _), (0, .ref _), (2, .int _)]) hx hb dX2_countOrders_25 rfl hl (by decide) rfl (fun ls hl => ?_)
        refine lv_iconst (v := 0) hx hb dX2_countOrders_26 (by decide) ?_
        refine lv_istore (lv' := [(4, .int _), (3, .int _), (0, .ref _), (2, .int _)]) hx hb dX2_countOrders_27 hl (by decide) rfl (fun ls hl => ?_)
        exact b29 _ ih _ _ _ _ _  hF H locs ls hP hD hS (lv_sub hl [2, 3, 1, 0] rfl)
  unfold F_X2_countOrders at hF
  have b_main : BW p l e s m below meth c 2 47 [.ref (a 7), .int x1] D (AC a) none (wlC cc a u') 5 (wlC cc a u) 0 [(0, .ref (a 7)), (1, .int x1)] [] := by
    intro H locs ls hP hD hS hl
    refine lv_aload_n hx hb dX2_countOrders_0 rfl (lv_at hl 0 rfl) ?_
    refine lv_iload_n hx hb dX2_countOrders_1 rfl (lv_at hl 1 rfl) ?_
    obtain ⟨u19, e21, hF⟩ := bdV_some hF
    refine MM.callVv (m_X2_gatherMembers e21) k_X2_94 S ecOK hEs hK ⟨by decide, by decide⟩ (va_recv hK hP rfl c_RI) rfl rfl hl.1 (Nat.le_of_ble_eq_true rfl) dX2_countOrders_2 ⟨Nat.le_refl _, Nat.le_refl _⟩ hP hD hS (fun H locs hP hD hS => ?_)
    refine lv_aload_n hx hb dX2_countOrders_5 rfl (lv_at hl 0 rfl) ?_
    refine va_get_w S hK hP _ c_RI rfl igX2 7 (by decide) q165 rfl rfl dX2_countOrders_6 ?_
    refine lv_iconst (v := 0) hx hb dX2_countOrders_9 (by decide) ?_
    refine lv_iconst (v := 1) hx hb dX2_countOrders_10 (by decide) ?_
    obtain ⟨hin22, hF⟩ := gd_some hF
    refine cIast S hK hP hD hS ⟨rfl, by decide⟩ rfl hin22 dX2_countOrders_11 (fun H locs hP hD hS => ?_)
    refine lv_iconst (v := 1) hx hb dX2_countOrders_12 (by decide) ?_
    refine lv_istore_n (lv' := [(2, .int _), (0, .ref _), (1, .int _)]) hx hb dX2_countOrders_13 rfl hl (by decide) rfl (fun ls hl => ?_)
    exact b14 _ _ _  hF H locs ls hP hD hS (lv_sub hl [1, 0] rfl)
  have hl := lv_entry ([.ref (a 7), .int x1]) (n := 5) (Nat.le_of_ble_eq_true rfl)
  rw [lg_entry_eq]
  generalize (lg_sl ([.ref (a 7), .int x1]) ++ List.replicate (5 - (lg_sl ([.ref (a 7), .int x1])).length) Slot.unset).toArray = ls at hl ⊢
  exact b_main _ _ _ hP hD hS hl

set_option maxRecDepth 100000 in
set_option maxHeartbeats 4000000 in
theorem m_X2_howManyOrders  {x1 : Int32} {u u' : Mem} {r : Int32}  (hF : F_X2_howManyOrders  u x1 = some (r, u')) : MC l D cc a tU adK adV yX2_howManyOrders cX2_howManyOrders 2 (some .int) 3 71 [.ref (a 7), .int x1] u (some (.int r)) u' := by
  refine MM.ofW (by decide) (fun p e s m below meth c S hr hlocks hK hEs hP hD hS => ?_)
  have S : CallFix p m c cX2_howManyOrders 2 s _ gtbl RX2 := S
  obtain ⟨hx, hb, hml, hown, hts⟩ := id S
  unfold F_X2_howManyOrders at hF
  have b_main : BW p l e s m below meth c 3 71 [.ref (a 7), .int x1] D (AC a) (some (.int r)) (wlC cc a u') 2 (wlC cc a u) 0 [(0, .ref (a 7)), (1, .int x1)] [] := by
    intro H locs ls hP hD hS hl
    refine lv_aload_n hx hb dX2_howManyOrders_0 rfl (lv_at hl 0 rfl) ?_
    refine lv_iload_n hx hb dX2_howManyOrders_1 rfl (lv_at hl 1 rfl) ?_
    obtain ⟨u1, e3, hF⟩ := bdV_some hF
    refine MM.callVv (m_X2_countOrders e3) k_X2_87 S ecOK hEs hK ⟨by decide, by decide⟩ (va_recv hK hP rfl c_RI) rfl rfl hl.1 (Nat.le_of_ble_eq_true rfl) dX2_howManyOrders_2 ⟨Nat.le_refl _, Nat.le_refl _⟩ hP hD hS (fun H locs hP hD hS => ?_)
    refine lv_aload_n hx hb dX2_howManyOrders_5 rfl (lv_at hl 0 rfl) ?_
    refine va_get_w S hK hP _ c_RI rfl igX2 7 (by decide) q165 rfl rfl dX2_howManyOrders_6 ?_
    refine lv_iconst (v := 1) hx hb dX2_howManyOrders_9 (by decide) ?_
    refine lv_aload_n hx hb dX2_howManyOrders_10 rfl (lv_at hl 0 rfl) ?_
    refine va_get_w S hK hP _ c_RI rfl igX2 10 (by decide) q168 rfl rfl dX2_howManyOrders_11 ?_
    refine lv_ishl hx hb dX2_howManyOrders_14 ?_
    refine lv_iconst (v := 1) hx hb dX2_howManyOrders_15 (by decide) ?_
    refine lv_isub hx hb dX2_howManyOrders_16 ?_
    obtain ⟨hin4, hF⟩ := gd_some hF
    refine cIald S hK hP ⟨rfl, by decide⟩ rfl hin4 dX2_howManyOrders_17 ?_
    obtain ⟨rfl, rfl⟩ := sp_eq hF
    exact retI S hr hlocks hP hD hS dX2_howManyOrders_18
  have hl := lv_entry ([.ref (a 7), .int x1]) (n := 2) (Nat.le_of_ble_eq_true rfl)
  rw [lg_entry_eq]
  generalize (lg_sl ([.ref (a 7), .int x1]) ++ List.replicate (2 - (lg_sl ([.ref (a 7), .int x1])).length) Slot.unset).toArray = ls at hl ⊢
  exact b_main _ _ _ hP hD hS hl

set_option maxRecDepth 100000 in
set_option maxHeartbeats 4000000 in
theorem m_X6_orders  {x1 : Int32} {u u' : Mem} {r : Int32}  (hF : F_X6_orders  u x1 = some (r, u')) : MC l D cc a tU adK adV yX6_orders cX6_orders 2 (some .int) 5 116 [.ref (a 0), .int x1] u (some (.int r)) u' := by
  refine MM.ofW (by decide) (fun p e s m below meth c S hr hlocks hK hEs hP hD hS => ?_)
  have S : CallFix p m c cX6_orders 2 s _ gtbl RX6 := S
  obtain ⟨hx, hb, hml, hown, hts⟩ := id S
  unfold F_X6_orders at hF
  have b_main : BW p l e s m below meth c 5 116 [.ref (a 0), .int x1] D (AC a) (some (.int r)) (wlC cc a u') 2 (wlC cc a u) 0 [(0, .ref (a 0)), (1, .int x1)] [] := by
    intro H locs ls hP hD hS hl
    refine lv_aload_n hx hb dX6_orders_0 rfl (lv_at hl 0 rfl) ?_
    refine va_get_w S hK hP _ c_SP rfl igX6 0 (by decide) q259 rfl rfl dX6_orders_1 ?_
    refine lv_iload_n hx hb dX6_orders_4 rfl (lv_at hl 1 rfl) ?_
    obtain ⟨r2, u1, e3, hF⟩ := bdI_some hF
    refine MM.callVi (m_X0_hasAll ⟨by decide, by decide⟩ e3) k_X6_160 S ecOK hEs hK ⟨by decide, by decide⟩ (va_recv hK hP rfl (c_AR ⟨by decide, by decide⟩)) rfl rfl hl.1 (Nat.le_of_ble_eq_true rfl) dX6_orders_5 ⟨Nat.le_refl _, Nat.le_refl _⟩ hP hD hS (fun H locs hP hD hS => ?_)
    refine lv_if_ne (tgt := 18) hx hb dX6_orders_8 (by decide) (fun c4 => ?_) (fun c4 => ?_)
    · have hF := ite_f hF c4
      refine lv_iload_n hx hb dX6_orders_18 rfl (lv_at hl 1 rfl) ?_
      obtain ⟨r6, u5, e7, hF⟩ := bdI_some hF
      refine MM.callSi (m_J6_bitCount_0f7a4 e7) k_X6_172 S ecOK hEs hK ⟨by decide, by decide⟩ rfl rfl hl.1 (Nat.le_of_ble_eq_true rfl) dX6_orders_19 ⟨Nat.le_refl _, Nat.le_refl _⟩ hP hD hS (fun H locs hP hD hS => ?_)
      refine lv_bipush (v := 8) hx hb dX6_orders_22 (by decide) ?_
      refine lv_icmp_le (tgt := 34) hx hb dX6_orders_24 (by decide) (fun c8 => ?_) (fun c8 => ?_)
      · have hF := ite_t hF c8
        refine lv_aload_n hx hb dX6_orders_34 rfl (lv_at hl 0 rfl) ?_
        refine va_get_w S hK hP _ c_SP rfl igX6 2 (by decide) q261 rfl rfl dX6_orders_35 ?_
        obtain ⟨u9, e11, hF⟩ := bdV_some hF
        refine MM.callVv (m_X2_weigh e11) k_X6_163 S ecOK hEs hK ⟨by decide, by decide⟩ (va_recv hK hP rfl c_RI) rfl rfl hl.1 (Nat.le_of_ble_eq_true rfl) dX6_orders_38 ⟨Nat.le_refl _, Nat.le_refl _⟩ hP hD hS (fun H locs hP hD hS => ?_)
        refine lv_aload_n hx hb dX6_orders_41 rfl (lv_at hl 0 rfl) ?_
        refine va_get_w S hK hP _ c_SP rfl igX6 2 (by decide) q261 rfl rfl dX6_orders_42 ?_
        refine lv_iload_n hx hb dX6_orders_45 rfl (lv_at hl 1 rfl) ?_
        obtain ⟨r13, u12, e14, hF⟩ := bdI_some hF
        refine MM.callVi (m_X2_howManyOrders e14) k_X6_183 S ecOK hEs hK ⟨by decide, by decide⟩ (va_recv hK hP rfl c_RI) rfl rfl hl.1 (Nat.le_of_ble_eq_true rfl) dX6_orders_46 ⟨Nat.le_refl _, Nat.le_refl _⟩ hP hD hS (fun H locs hP hD hS => ?_)
        obtain ⟨rfl, rfl⟩ := sp_eq hF
        exact retI S hr hlocks hP hD hS dX6_orders_49
      · have hF := ite_f hF c8
        refine lv_aload_n hx hb dX6_orders_27 rfl (lv_at hl 0 rfl) ?_
        refine lv_ldc hx hb hown (hts _ q525) dX6_orders_28 ?_
        obtain ⟨r16, u15, e17, hF⟩ := bdI_some hF
        refine MM.callVi (m_X6_found e17) k_X6_64 S ecOK hEs hK ⟨by decide, by decide⟩ (va_recv hK hP rfl c_SP) rfl rfl hl.1 (Nat.le_of_ble_eq_true rfl) dX6_orders_30 ⟨Nat.le_refl _, Nat.le_refl _⟩ hP hD hS (fun H locs hP hD hS => ?_)
        obtain ⟨rfl, rfl⟩ := sp_eq hF
        exact retI S hr hlocks hP hD hS dX6_orders_33
    · have hF := ite_t hF c4
      refine lv_aload_n hx hb dX6_orders_11 rfl (lv_at hl 0 rfl) ?_
      refine lv_ldc hx hb hown (hts _ q291) dX6_orders_12 ?_
      obtain ⟨r19, u18, e20, hF⟩ := bdI_some hF
      refine MM.callVi (m_X6_found e20) k_X6_64 S ecOK hEs hK ⟨by decide, by decide⟩ (va_recv hK hP rfl c_SP) rfl rfl hl.1 (Nat.le_of_ble_eq_true rfl) dX6_orders_14 ⟨Nat.le_refl _, Nat.le_refl _⟩ hP hD hS (fun H locs hP hD hS => ?_)
      obtain ⟨rfl, rfl⟩ := sp_eq hF
      exact retI S hr hlocks hP hD hS dX6_orders_17
  have hl := lv_entry ([.ref (a 0), .int x1]) (n := 2) (Nat.le_of_ble_eq_true rfl)
  rw [lg_entry_eq]
  generalize (lg_sl ([.ref (a 0), .int x1]) ++ List.replicate (2 - (lg_sl ([.ref (a 0), .int x1])).length) Slot.unset).toArray = ls at hl ⊢
  exact b_main _ _ _ hP hD hS hl

set_option maxRecDepth 100000 in
set_option maxHeartbeats 4000000 in
theorem m_X2_firstLeader  {x1 : Int32} {u u' : Mem} {r : Int32}  (hF : F_X2_firstLeader  u x1 = some (r, u')) : MC l D cc a tU adK adV yX2_firstLeader cX2_firstLeader 3 (some .int) 1 22 [.ref (a 7), .int x1] u (some (.int r)) u' := by
  refine MM.ofW (by decide) (fun p e s m below meth c S hr hlocks hK hEs hP hD hS => ?_)
  have S : CallFix p m c cX2_firstLeader 3 s _ gtbl RX2 := S
  obtain ⟨hx, hb, hml, hown, hts⟩ := id S
  have b33 : ∀ (k2 : Mem → Int32 → Int32 → Option (Int32 × Mem)) (hk2 : ∀ (u : Mem) (v1 : Int32) (v2 : Int32) , k2 u v1 v2 = some (r, u') → BW p l e s m below meth c 1 22 [.ref (a 7), .int x1] D (AC a) (some (.int r)) (wlC cc a u') 3 (wlC cc a u) 2 [(0, .ref (a 7)), (1, .int v1), (2, .int v2)] []) (u : Mem) (v1 : Int32) (v2 : Int32) , F_X2_firstLeader_33 k2 u v1 v2 = some (r, u') → BW p l e s m below meth c 1 22 [.ref (a 7), .int x1] D (AC a) (some (.int r)) (wlC cc a u') 3 (wlC cc a u) 33 [(0, .ref (a 7)), (1, .int v1), (2, .int v2)] [] := by
    intro k2 hk2 u v1 v2 hF H locs ls hP hD hS hl
    unfold F_X2_firstLeader_33 at hF
    refine lv_inc1 (k := 2) (lv' := [(2, .int _), (0, .ref _), (1, .int _)]) hx hb dX2_firstLeader_33 hl rfl (by decide) rfl (fun ls hl => ?_)
    refine lv_goto (tgt := 2) hx hb dX2_firstLeader_36 (by decide) ?_
    exact hk2 _ _ _  hF H locs ls hP hD hS (lv_sub hl [1, 2, 0] rfl)
  have b2 : ∀ (n : Nat) (u : Mem) (v1 : Int32) (v2 : Int32) , F_X2_firstLeader_2  n u v1 v2 = some (r, u') → BW p l e s m below meth c 1 22 [.ref (a 7), .int x1] D (AC a) (some (.int r)) (wlC cc a u') 3 (wlC cc a u) 2 [(0, .ref (a 7)), (1, .int v1), (2, .int v2)] [] := by
    intro n
    induction n with
    | zero => intro u v1 v2 hF; cases hF
    | succ n ih =>
      intro u v1 v2 hF H locs ls hP hD hS hl
      unfold F_X2_firstLeader_2 at hF
      refine lv_iload_n hx hb dX2_firstLeader_2 rfl (lv_at hl 2 rfl) ?_
      refine lv_aload_n hx hb dX2_firstLeader_3 rfl (lv_at hl 0 rfl) ?_
      refine va_get_w S hK hP _ c_RI rfl igX2 10 (by decide) q168 rfl rfl dX2_firstLeader_4 ?_
      refine lv_icmp_ge (tgt := 39) hx hb dX2_firstLeader_7 (by decide) (fun c1 => ?_) (fun c1 => ?_)
      · have hF := ite_t hF c1
        refine lv_iconst (v := -1) hx hb dX2_firstLeader_39 (by decide) ?_
        obtain ⟨rfl, rfl⟩ := sp_eq hF
        exact retI S hr hlocks hP hD hS dX2_firstLeader_40
      · have hF := ite_f hF c1
        refine lv_iload_n hx hb dX2_firstLeader_10 rfl (lv_at hl 1 rfl) ?_
        refine lv_iload_n hx hb dX2_firstLeader_11 rfl (lv_at hl 2 rfl) ?_
        obtain ⟨r3, u2, e4, hF⟩ := bdI_some hF
        refine MM.callSi (m_X2_isIn e4) k_X2_61 S ecOK hEs hK ⟨by decide, by decide⟩ rfl rfl hl.1 (Nat.le_of_ble_eq_true rfl) dX2_firstLeader_12 ⟨Nat.le_refl _, Nat.le_refl _⟩ hP hD hS (fun H locs hP hD hS => ?_)
        refine lv_if_eq (tgt := 33) hx hb dX2_firstLeader_15 (by decide) (fun c5 => ?_) (fun c5 => ?_)
        · have hF := ite_t hF c5
          exact b33 _ ih _ _ _  hF H locs ls hP hD hS (lv_sub hl [0, 1, 2] rfl)
        · have hF := ite_f hF c5
          refine lv_aload_n hx hb dX2_firstLeader_18 rfl (lv_at hl 0 rfl) ?_
          refine lv_iload_n hx hb dX2_firstLeader_19 rfl (lv_at hl 2 rfl) ?_
          refine lv_iload_n hx hb dX2_firstLeader_20 rfl (lv_at hl 1 rfl) ?_
          refine lv_iload_n hx hb dX2_firstLeader_21 rfl (lv_at hl 2 rfl) ?_
          obtain ⟨r7, u6, e8, hF⟩ := bdI_some hF
          refine MM.callSi (m_X2_without e8) k_X2_64 S ecOK hEs hK ⟨by decide, by decide⟩ rfl rfl hl.1 (Nat.le_of_ble_eq_true rfl) dX2_firstLeader_22 ⟨Nat.le_refl _, Nat.le_refl _⟩ hP hD hS (fun H locs hP hD hS => ?_)
          obtain ⟨r10, u9, e11, hF⟩ := bdI_some hF
          refine MM.callVi (m_X2_canLead e11) k_X2_97 S ecOK hEs hK ⟨by decide, by decide⟩ (va_recv hK hP rfl c_RI) rfl rfl hl.1 (Nat.le_of_ble_eq_true rfl) dX2_firstLeader_25 ⟨Nat.le_refl _, Nat.le_refl _⟩ hP hD hS (fun H locs hP hD hS => ?_)
          refine lv_if_eq (tgt := 33) hx hb dX2_firstLeader_28 (by decide) (fun c12 => ?_) (fun c12 => ?_)
          · have hF := ite_t hF c12
            exact b33 _ ih _ _ _  hF H locs ls hP hD hS (lv_sub hl [0, 1, 2] rfl)
          · have hF := ite_f hF c12
            refine lv_iload_n hx hb dX2_firstLeader_31 rfl (lv_at hl 2 rfl) ?_
            obtain ⟨rfl, rfl⟩ := sp_eq hF
            exact retI S hr hlocks hP hD hS dX2_firstLeader_32
  unfold F_X2_firstLeader at hF
  have b_main : BW p l e s m below meth c 1 22 [.ref (a 7), .int x1] D (AC a) (some (.int r)) (wlC cc a u') 3 (wlC cc a u) 0 [(0, .ref (a 7)), (1, .int x1)] [] := by
    intro H locs ls hP hD hS hl
    refine lv_iconst (v := 0) hx hb dX2_firstLeader_0 (by decide) ?_
    refine lv_istore_n (lv' := [(2, .int _), (0, .ref _), (1, .int _)]) hx hb dX2_firstLeader_1 rfl hl (by decide) rfl (fun ls hl => ?_)
    exact b2 _ _ _ _  hF H locs ls hP hD hS (lv_sub hl [1, 2, 0] rfl)
  have hl := lv_entry ([.ref (a 7), .int x1]) (n := 3) (Nat.le_of_ble_eq_true rfl)
  rw [lg_entry_eq]
  generalize (lg_sl ([.ref (a 7), .int x1]) ++ List.replicate (3 - (lg_sl ([.ref (a 7), .int x1])).length) Slot.unset).toArray = ls at hl ⊢
  exact b_main _ _ _ hP hD hS hl

end
