section
variable {l : Launch} {D : va_G} {cc : Nat → ClassId} {a : Nat → Nat}
set_option maxRecDepth 100000 in
set_option maxHeartbeats 4000000 in
theorem m_X7_came  {x1 : Int32} {x2 : Int32} {u u' : Mem} {r : Int32}  (hF : F_X7_came  u x1 x2 = some (r, u')) : MR l D cc a yX7_came cX7_came 3 (some .int) 5 111 [.ref (a 0), .int x1, .int x2] u (some (.int r)) u' := by
  refine MM.ofW (by decide) (fun p e s m below meth c S hr hlocks hK hEs hP hD hS => ?_)
  have S : CallFix p m c cX7_came 3 s _ gtbl RX7 := S
  obtain ⟨hx, hb, hml, hown, hts⟩ := id S
  unfold F_X7_came at hF
  have b_main : BW p l e s m below meth c 5 111 [.ref (a 0), .int x1, .int x2] D (AM a) (some (.int r)) (wlM cc a u') 3 (wlM cc a u) 0 [(0, .ref (a 0)), (1, .int x1), (2, .int x2)] [] := by
    intro H locs ls hP hD hS hl
    refine lv_aload_n hx hb dX7_came_0 rfl (lv_at hl 0 rfl) ?_
    refine lv_iload_n hx hb dX7_came_1 rfl (lv_at hl 1 rfl) ?_
    refine lv_iload_n hx hb dX7_came_2 rfl (lv_at hl 2 rfl) ?_
    obtain ⟨r2, u1, e3, hF⟩ := bdI_some hF
    refine MM.callVi (m_X7_areTwo e3) k_X7_130 S emOK hEs hK ⟨by decide, by decide⟩ (va_recv hK hP rfl c_MO) rfl rfl hl.1 (Nat.le_of_ble_eq_true rfl) dX7_came_3 ⟨Nat.le_refl _, Nat.le_refl _⟩ hP hD hS (fun H locs hP hD hS => ?_)
    refine lv_if_ne (tgt := 16) hx hb dX7_came_6 (by decide) (fun c4 => ?_) (fun c4 => ?_)
    · have hF := ite_f hF c4
      refine lv_aload_n hx hb dX7_came_16 rfl (lv_at hl 0 rfl) ?_
      refine lv_iload_n hx hb dX7_came_17 rfl (lv_at hl 1 rfl) ?_
      refine lv_iload_n hx hb dX7_came_18 rfl (lv_at hl 2 rfl) ?_
      obtain ⟨r6, u5, e7, hF⟩ := bdI_some hF
      refine MM.callVi (m_X7_canBe e7) k_X7_133 S emOK hEs hK ⟨by decide, by decide⟩ (va_recv hK hP rfl c_MO) rfl rfl hl.1 (Nat.le_of_ble_eq_true rfl) dX7_came_19 ⟨Nat.le_refl _, Nat.le_refl _⟩ hP hD hS (fun H locs hP hD hS => ?_)
      refine lv_if_ne (tgt := 32) hx hb dX7_came_22 (by decide) (fun c8 => ?_) (fun c8 => ?_)
      · have hF := ite_f hF c8
        refine lv_aload_n hx hb dX7_came_32 rfl (lv_at hl 0 rfl) ?_
        refine lv_iload_n hx hb dX7_came_33 rfl (lv_at hl 2 rfl) ?_
        obtain ⟨r10, u9, e11, hF⟩ := bdL_some hF
        refine MM.callVl (m_X7_shows e11) k_X7_109 S emOK hEs hK ⟨by decide, by decide⟩ (va_recv hK hP rfl c_MO) rfl rfl hl.1 (Nat.le_of_ble_eq_true rfl) dX7_came_34 ⟨Nat.le_refl _, Nat.le_refl _⟩ hP hD hS (fun H locs hP hD hS => ?_)
        refine lv_aload_n hx hb dX7_came_37 rfl (lv_at hl 0 rfl) ?_
        refine lv_iload_n hx hb dX7_came_38 rfl (lv_at hl 1 rfl) ?_
        obtain ⟨r13, u12, e14, hF⟩ := bdL_some hF
        refine MM.callVl (m_X7_shows e14) k_X7_109 S emOK hEs hK ⟨by decide, by decide⟩ (va_recv hK hP rfl c_MO) rfl rfl hl.1 (Nat.le_of_ble_eq_true rfl) dX7_came_39 ⟨Nat.le_refl _, Nat.le_refl _⟩ hP hD hS (fun H locs hP hD hS => ?_)
        refine lv_aload_n hx hb dX7_came_42 rfl (lv_at hl 0 rfl) ?_
        refine lv_iload_n hx hb dX7_came_43 rfl (lv_at hl 1 rfl) ?_
        obtain ⟨r16, u15, e17, hF⟩ := bdL_some hF
        refine MM.callVl (m_X7_hides e17) k_X7_78 S emOK hEs hK ⟨by decide, by decide⟩ (va_recv hK hP rfl c_MO) rfl rfl hl.1 (Nat.le_of_ble_eq_true rfl) dX7_came_44 ⟨Nat.le_refl _, Nat.le_refl _⟩ hP hD hS (fun H locs hP hD hS => ?_)
        refine lv_lor hx hb dX7_came_47 ?_
        refine lv_ldc2 hx hb hown (hts _ q1008) dX7_came_48 ?_
        refine lv_lxor hx hb dX7_came_51 ?_
        refine lv_land hx hb dX7_came_52 ?_
        obtain ⟨r19, u18, e20, hF⟩ := bdI_some hF
        refine MM.callSi (m_X7_many e20) k_X7_112 S emOK hEs hK ⟨by decide, by decide⟩ rfl rfl hl.1 (Nat.le_of_ble_eq_true rfl) dX7_came_53 ⟨Nat.le_refl _, Nat.le_refl _⟩ hP hD hS (fun H locs hP hD hS => ?_)
        obtain ⟨rfl, rfl⟩ := sp_eq hF
        exact retI S hr hlocks hP hD hS dX7_came_56
      · have hF := ite_t hF c8
        refine lv_aload_n hx hb dX7_came_25 rfl (lv_at hl 0 rfl) ?_
        refine lv_ldc hx hb hown (hts _ q1084) dX7_came_26 ?_
        obtain ⟨r22, u21, e23, hF⟩ := bdI_some hF
        refine MM.callVi (m_X7_finds e23) k_X7_94 S emOK hEs hK ⟨by decide, by decide⟩ (va_recv hK hP rfl c_MO) rfl rfl hl.1 (Nat.le_of_ble_eq_true rfl) dX7_came_28 ⟨Nat.le_refl _, Nat.le_refl _⟩ hP hD hS (fun H locs hP hD hS => ?_)
        obtain ⟨rfl, rfl⟩ := sp_eq hF
        exact retI S hr hlocks hP hD hS dX7_came_31
    · have hF := ite_t hF c4
      refine lv_aload_n hx hb dX7_came_9 rfl (lv_at hl 0 rfl) ?_
      refine lv_ldc hx hb hown (hts _ q966) dX7_came_10 ?_
      obtain ⟨r25, u24, e26, hF⟩ := bdI_some hF
      refine MM.callVi (m_X7_finds e26) k_X7_94 S emOK hEs hK ⟨by decide, by decide⟩ (va_recv hK hP rfl c_MO) rfl rfl hl.1 (Nat.le_of_ble_eq_true rfl) dX7_came_12 ⟨Nat.le_refl _, Nat.le_refl _⟩ hP hD hS (fun H locs hP hD hS => ?_)
      obtain ⟨rfl, rfl⟩ := sp_eq hF
      exact retI S hr hlocks hP hD hS dX7_came_15
  have hl := lv_entry ([.ref (a 0), .int x1, .int x2]) (n := 3) (Nat.le_of_ble_eq_true rfl)
  rw [lg_entry_eq]
  generalize (lg_sl ([.ref (a 0), .int x1, .int x2]) ++ List.replicate (3 - (lg_sl ([.ref (a 0), .int x1, .int x2])).length) Slot.unset).toArray = ls at hl ⊢
  exact b_main _ _ _ hP hD hS hl

set_option maxRecDepth 100000 in
set_option maxHeartbeats 4000000 in
theorem m_X7_isSet  {x1 : Int32} {u u' : Mem} {r : Int32}  (hF : F_X7_isSet  u x1 = some (r, u')) : MR l D cc a yX7_isSet cX7_isSet 2 (some .boolean) 1 22 [.ref (a 0), .int x1] u (some (.int r)) u' := by
  refine MM.ofW (by decide) (fun p e s m below meth c S hr hlocks hK hEs hP hD hS => ?_)
  have S : CallFix p m c cX7_isSet 2 s _ gtbl RX7 := S
  obtain ⟨hx, hb, hml, hown, hts⟩ := id S
  unfold F_X7_isSet at hF
  have b_main : BW p l e s m below meth c 1 22 [.ref (a 0), .int x1] D (AM a) (some (.int r)) (wlM cc a u') 2 (wlM cc a u) 0 [(0, .ref (a 0)), (1, .int x1)] [] := by
    intro H locs ls hP hD hS hl
    refine lv_iload_n hx hb dX7_isSet_0 rfl (lv_at hl 1 rfl) ?_
    refine lv_iconst (v := 0) hx hb dX7_isSet_1 (by decide) ?_
    refine lv_iconst (v := 1) hx hb dX7_isSet_2 (by decide) ?_
    refine lv_aload_n hx hb dX7_isSet_3 rfl (lv_at hl 0 rfl) ?_
    refine va_get_w S hK hP _ c_MO rfl igX7 0 (by decide) q879 rfl rfl dX7_isSet_4 ?_
    refine lv_iconst (v := 0) hx hb dX7_isSet_7 (by decide) ?_
    obtain ⟨hin1, hF⟩ := gd_some hF
    refine mIald S hK hP ⟨rfl, by decide⟩ rfl hin1 dX7_isSet_8 ?_
    refine lv_ishl hx hb dX7_isSet_9 ?_
    refine lv_iconst (v := 1) hx hb dX7_isSet_10 (by decide) ?_
    refine lv_isub hx hb dX7_isSet_11 ?_
    obtain ⟨r3, u2, e4, hF⟩ := bdI_some hF
    refine MM.callSi (m_X7_in e4) k_X7_64 S emOK hEs hK ⟨by decide, by decide⟩ rfl rfl hl.1 (Nat.le_of_ble_eq_true rfl) dX7_isSet_12 ⟨Nat.le_refl _, Nat.le_refl _⟩ hP hD hS (fun H locs hP hD hS => ?_)
    obtain ⟨hz5, hF⟩ := gz_some hF
    obtain ⟨rfl, rfl⟩ := sp_eq hF
    exact retZ S hr hlocks hP hD hS hz5 dX7_isSet_15
  have hl := lv_entry ([.ref (a 0), .int x1]) (n := 2) (Nat.le_of_ble_eq_true rfl)
  rw [lg_entry_eq]
  generalize (lg_sl ([.ref (a 0), .int x1]) ++ List.replicate (2 - (lg_sl ([.ref (a 0), .int x1])).length) Slot.unset).toArray = ls at hl ⊢
  exact b_main _ _ _ hP hD hS hl

set_option maxRecDepth 100000 in
set_option maxHeartbeats 4000000 in
theorem m_X7_isEarlier  {x1 : Int32} {x2 : Int32} {u u' : Mem} {r : Int32}  (hF : F_X7_isEarlier  u x1 x2 = some (r, u')) : MR l D cc a yX7_isEarlier cX7_isEarlier 3 (some .boolean) 1 22 [.ref (a 0), .int x1, .int x2] u (some (.int r)) u' := by
  refine MM.ofW (by decide) (fun p e s m below meth c S hr hlocks hK hEs hP hD hS => ?_)
  have S : CallFix p m c cX7_isEarlier 3 s _ gtbl RX7 := S
  obtain ⟨hx, hb, hml, hown, hts⟩ := id S
  have b40 : ∀  (u : Mem) (y0 : Int32) , F_X7_isEarlier_40  u y0 = some (r, u') → BW p l e s m below meth c 1 22 [.ref (a 0), .int x1, .int x2] D (AM a) (some (.int r)) (wlM cc a u') 3 (wlM cc a u) 40 [] [.int y0] := by
    intro  u y0 hF H locs ls hP hD hS hl
    unfold F_X7_isEarlier_40 at hF
    obtain ⟨hz1, hF⟩ := gz_some hF
    obtain ⟨rfl, rfl⟩ := sp_eq hF
    exact retZ S hr hlocks hP hD hS hz1 dX7_isEarlier_40
  have b35 : ∀  (u : Mem)  , F_X7_isEarlier_35  u  = some (r, u') → BW p l e s m below meth c 1 22 [.ref (a 0), .int x1, .int x2] D (AM a) (some (.int r)) (wlM cc a u') 3 (wlM cc a u) 35 [] [] := by
    intro  u  hF H locs ls hP hD hS hl
    unfold F_X7_isEarlier_35 at hF
    refine lv_iconst (v := 1) hx hb dX7_isEarlier_35 (by decide) ?_
    refine lv_goto (tgt := 40) hx hb dX7_isEarlier_36 (by decide) ?_
    exact b40 _ _  hF H locs ls hP hD hS (lv_sub hl [] rfl)
  have b39 : ∀  (u : Mem)  , F_X7_isEarlier_39  u  = some (r, u') → BW p l e s m below meth c 1 22 [.ref (a 0), .int x1, .int x2] D (AM a) (some (.int r)) (wlM cc a u') 3 (wlM cc a u) 39 [] [] := by
    intro  u  hF H locs ls hP hD hS hl
    unfold F_X7_isEarlier_39 at hF
    refine lv_iconst (v := 0) hx hb dX7_isEarlier_39 (by decide) ?_
    exact b40 _ _  hF H locs ls hP hD hS (lv_sub hl [] rfl)
  unfold F_X7_isEarlier at hF
  have b_main : BW p l e s m below meth c 1 22 [.ref (a 0), .int x1, .int x2] D (AM a) (some (.int r)) (wlM cc a u') 3 (wlM cc a u) 0 [(0, .ref (a 0)), (1, .int x1), (2, .int x2)] [] := by
    intro H locs ls hP hD hS hl
    refine lv_aload_n hx hb dX7_isEarlier_0 rfl (lv_at hl 0 rfl) ?_
    refine lv_iload_n hx hb dX7_isEarlier_1 rfl (lv_at hl 1 rfl) ?_
    refine lv_iconst (v := 2) hx hb dX7_isEarlier_2 (by decide) ?_
    obtain ⟨r3, u2, e4, hF⟩ := bdI_some hF
    refine MM.callVi (m_X7_its e4) k_X7_68 S emOK hEs hK ⟨by decide, by decide⟩ (va_recv hK hP rfl c_MO) rfl rfl hl.1 (Nat.le_of_ble_eq_true rfl) dX7_isEarlier_3 ⟨Nat.le_refl _, Nat.le_refl _⟩ hP hD hS (fun H locs hP hD hS => ?_)
    refine lv_aload_n hx hb dX7_isEarlier_6 rfl (lv_at hl 0 rfl) ?_
    refine lv_iload_n hx hb dX7_isEarlier_7 rfl (lv_at hl 2 rfl) ?_
    refine lv_iconst (v := 2) hx hb dX7_isEarlier_8 (by decide) ?_
    obtain ⟨r6, u5, e7, hF⟩ := bdI_some hF
    refine MM.callVi (m_X7_its e7) k_X7_68 S emOK hEs hK ⟨by decide, by decide⟩ (va_recv hK hP rfl c_MO) rfl rfl hl.1 (Nat.le_of_ble_eq_true rfl) dX7_isEarlier_9 ⟨Nat.le_refl _, Nat.le_refl _⟩ hP hD hS (fun H locs hP hD hS => ?_)
    refine lv_icmp_lt (tgt := 35) hx hb dX7_isEarlier_12 (by decide) (fun c8 => ?_) (fun c8 => ?_)
    · have hF := ite_t hF c8
      exact b35 _  hF H locs ls hP hD hS (lv_sub hl [] rfl)
    · have hF := ite_f hF c8
      refine lv_aload_n hx hb dX7_isEarlier_15 rfl (lv_at hl 0 rfl) ?_
      refine lv_iload_n hx hb dX7_isEarlier_16 rfl (lv_at hl 1 rfl) ?_
      refine lv_iconst (v := 2) hx hb dX7_isEarlier_17 (by decide) ?_
      obtain ⟨r10, u9, e11, hF⟩ := bdI_some hF
      refine MM.callVi (m_X7_its e11) k_X7_68 S emOK hEs hK ⟨by decide, by decide⟩ (va_recv hK hP rfl c_MO) rfl rfl hl.1 (Nat.le_of_ble_eq_true rfl) dX7_isEarlier_18 ⟨Nat.le_refl _, Nat.le_refl _⟩ hP hD hS (fun H locs hP hD hS => ?_)
      refine lv_aload_n hx hb dX7_isEarlier_21 rfl (lv_at hl 0 rfl) ?_
      refine lv_iload_n hx hb dX7_isEarlier_22 rfl (lv_at hl 2 rfl) ?_
      refine lv_iconst (v := 2) hx hb dX7_isEarlier_23 (by decide) ?_
      obtain ⟨r13, u12, e14, hF⟩ := bdI_some hF
      refine MM.callVi (m_X7_its e14) k_X7_68 S emOK hEs hK ⟨by decide, by decide⟩ (va_recv hK hP rfl c_MO) rfl rfl hl.1 (Nat.le_of_ble_eq_true rfl) dX7_isEarlier_24 ⟨Nat.le_refl _, Nat.le_refl _⟩ hP hD hS (fun H locs hP hD hS => ?_)
      refine lv_icmp_ne (tgt := 39) hx hb dX7_isEarlier_27 (by decide) (fun c15 => ?_) (fun c15 => ?_)
      · have hF := ite_f hF c15
        exact b39 _  hF H locs ls hP hD hS (lv_sub hl [] rfl)
      · have hF := ite_t hF c15
        refine lv_iload_n hx hb dX7_isEarlier_30 rfl (lv_at hl 1 rfl) ?_
        refine lv_iload_n hx hb dX7_isEarlier_31 rfl (lv_at hl 2 rfl) ?_
        refine lv_icmp_ge (tgt := 39) hx hb dX7_isEarlier_32 (by decide) (fun c16 => ?_) (fun c16 => ?_)
        · have hF := ite_t hF c16
          exact b39 _  hF H locs ls hP hD hS (lv_sub hl [] rfl)
        · have hF := ite_f hF c16
          exact b35 _  hF H locs ls hP hD hS (lv_sub hl [] rfl)
  have hl := lv_entry ([.ref (a 0), .int x1, .int x2]) (n := 3) (Nat.le_of_ble_eq_true rfl)
  rw [lg_entry_eq]
  generalize (lg_sl ([.ref (a 0), .int x1, .int x2]) ++ List.replicate (3 - (lg_sl ([.ref (a 0), .int x1, .int x2])).length) Slot.unset).toArray = ls at hl ⊢
  exact b_main _ _ _ hP hD hS hl

set_option maxRecDepth 100000 in
set_option maxHeartbeats 4000000 in
theorem m_X7_findCan   {u u' : Mem}  (hF : F_X7_findCan  u  = some u') : MR l D cc a yX7_findCan cX7_findCan 4 none 5 111 [.ref (a 0)] u none u' := by
  refine MM.ofW (by decide) (fun p e s m below meth c S hr hlocks hK hEs hP hD hS => ?_)
  have S : CallFix p m c cX7_findCan 4 s _ gtbl RX7 := S
  obtain ⟨hx, hb, hml, hown, hts⟩ := id S
  have b76 : ∀ (k16 : Mem → Int32 → Int32 → Int32 → Option Mem) (hk16 : ∀ (u : Mem) (v1 : Int32) (v2 : Int32) (v3 : Int32) , k16 u v1 v2 v3 = some u' → BW p l e s m below meth c 5 111 [.ref (a 0)] D (AM a) none (wlM cc a u') 4 (wlM cc a u) 16 [(0, .ref (a 0)), (1, .int v1), (2, .int v2), (3, .int v3)] []) (u : Mem) (v1 : Int32) (v3 : Int32) (y0 : Int32) (y1 : Int32) , F_X7_findCan_76 k16 u v1 v3 y0 y1 = some u' → BW p l e s m below meth c 5 111 [.ref (a 0)] D (AM a) none (wlM cc a u') 4 (wlM cc a u) 76 [(0, .ref (a 0)), (1, .int v1), (3, .int v3)] [.int y1, .int y0] := by
    intro k16 hk16 u v1 v3 y0 y1 hF H locs ls hP hD hS hl
    unfold F_X7_findCan_76 at hF
    refine lv_iadd hx hb dX7_findCan_76 ?_
    refine lv_istore_n (lv' := [(2, .int _), (0, .ref _), (1, .int _), (3, .int _)]) hx hb dX7_findCan_77 rfl hl (by decide) rfl (fun ls hl => ?_)
    refine lv_inc1 (k := 3) (lv' := [(3, .int _), (2, .int _), (0, .ref _), (1, .int _)]) hx hb dX7_findCan_78 hl rfl (by decide) rfl (fun ls hl => ?_)
    refine lv_goto (tgt := 16) hx hb dX7_findCan_81 (by decide) ?_
    exact hk16 _ _ _ _  hF H locs ls hP hD hS (lv_sub hl [2, 3, 1, 0] rfl)
  have b75 : ∀ (k16 : Mem → Int32 → Int32 → Int32 → Option Mem) (hk16 : ∀ (u : Mem) (v1 : Int32) (v2 : Int32) (v3 : Int32) , k16 u v1 v2 v3 = some u' → BW p l e s m below meth c 5 111 [.ref (a 0)] D (AM a) none (wlM cc a u') 4 (wlM cc a u) 16 [(0, .ref (a 0)), (1, .int v1), (2, .int v2), (3, .int v3)] []) (u : Mem) (v1 : Int32) (v3 : Int32) (y0 : Int32) , F_X7_findCan_75 k16 u v1 v3 y0 = some u' → BW p l e s m below meth c 5 111 [.ref (a 0)] D (AM a) none (wlM cc a u') 4 (wlM cc a u) 75 [(0, .ref (a 0)), (1, .int v1), (3, .int v3)] [.int y0] := by
    intro k16 hk16 u v1 v3 y0 hF H locs ls hP hD hS hl
    unfold F_X7_findCan_75 at hF
    refine lv_iconst (v := 0) hx hb dX7_findCan_75 (by decide) ?_
    exact b76 _ hk16 _ _ _ _ _  hF H locs ls hP hD hS (lv_sub hl [0, 1, 2] rfl)
  have b55 : ∀ (k16 : Mem → Int32 → Int32 → Int32 → Option Mem) (hk16 : ∀ (u : Mem) (v1 : Int32) (v2 : Int32) (v3 : Int32) , k16 u v1 v2 v3 = some u' → BW p l e s m below meth c 5 111 [.ref (a 0)] D (AM a) none (wlM cc a u') 4 (wlM cc a u) 16 [(0, .ref (a 0)), (1, .int v1), (2, .int v2), (3, .int v3)] []) (u : Mem) (v1 : Int32) (v2 : Int32) (v3 : Int32) (y1 : Int32) (y2 : Int32) , F_X7_findCan_55 k16 u v1 v2 v3 y1 y2 = some u' → BW p l e s m below meth c 5 111 [.ref (a 0)] D (AM a) none (wlM cc a u') 4 (wlM cc a u) 55 [(0, .ref (a 0)), (1, .int v1), (2, .int v2), (3, .int v3)] [.int y2, .int y1, .ref (a 4)] := by
    intro k16 hk16 u v1 v2 v3 y1 y2 hF H locs ls hP hD hS hl
    unfold F_X7_findCan_55 at hF
    obtain ⟨hin1, hF⟩ := gd_some hF
    refine mZast S hK hP hD hS ⟨rfl, by decide⟩ rfl hin1 dX7_findCan_55 (fun H locs hP hD hS => ?_)
    refine lv_iload_n hx hb dX7_findCan_56 rfl (lv_at hl 2 rfl) ?_
    refine lv_iload_n hx hb dX7_findCan_57 rfl (lv_at hl 3 rfl) ?_
    refine lv_iload_n hx hb dX7_findCan_58 rfl (lv_at hl 1 rfl) ?_
    refine lv_icmp_eq (tgt := 75) hx hb dX7_findCan_59 (by decide) (fun c2 => ?_) (fun c2 => ?_)
    · have hF := ite_t hF c2
      exact b75 _ hk16 _ _ _ _  hF H locs ls hP hD hS (lv_sub hl [0, 1, 3] rfl)
    · have hF := ite_f hF c2
      refine lv_aload_n hx hb dX7_findCan_62 rfl (lv_at hl 0 rfl) ?_
      refine lv_iload_n hx hb dX7_findCan_63 rfl (lv_at hl 3 rfl) ?_
      refine lv_iload_n hx hb dX7_findCan_64 rfl (lv_at hl 1 rfl) ?_
      obtain ⟨r4, u3, e5, hF⟩ := bdI_some hF
      refine MM.callVi (m_X7_isEarlier e5) k_X7_138 S emOK hEs hK ⟨by decide, by decide⟩ (va_recv hK hP rfl c_MO) rfl rfl hl.1 (Nat.le_of_ble_eq_true rfl) dX7_findCan_65 ⟨Nat.le_refl _, Nat.le_refl _⟩ hP hD hS (fun H locs hP hD hS => ?_)
      refine lv_if_eq (tgt := 75) hx hb dX7_findCan_68 (by decide) (fun c6 => ?_) (fun c6 => ?_)
      · have hF := ite_t hF c6
        exact b75 _ hk16 _ _ _ _  hF H locs ls hP hD hS (lv_sub hl [0, 1, 3] rfl)
      · have hF := ite_f hF c6
        refine lv_iconst (v := 1) hx hb dX7_findCan_71 (by decide) ?_
        refine lv_goto (tgt := 76) hx hb dX7_findCan_72 (by decide) ?_
        exact b76 _ hk16 _ _ _ _ _  hF H locs ls hP hD hS (lv_sub hl [0, 1, 3] rfl)
  have b54 : ∀ (k16 : Mem → Int32 → Int32 → Int32 → Option Mem) (hk16 : ∀ (u : Mem) (v1 : Int32) (v2 : Int32) (v3 : Int32) , k16 u v1 v2 v3 = some u' → BW p l e s m below meth c 5 111 [.ref (a 0)] D (AM a) none (wlM cc a u') 4 (wlM cc a u) 16 [(0, .ref (a 0)), (1, .int v1), (2, .int v2), (3, .int v3)] []) (u : Mem) (v1 : Int32) (v2 : Int32) (v3 : Int32) (y1 : Int32) , F_X7_findCan_54 k16 u v1 v2 v3 y1 = some u' → BW p l e s m below meth c 5 111 [.ref (a 0)] D (AM a) none (wlM cc a u') 4 (wlM cc a u) 54 [(0, .ref (a 0)), (1, .int v1), (2, .int v2), (3, .int v3)] [.int y1, .ref (a 4)] := by
    intro k16 hk16 u v1 v2 v3 y1 hF H locs ls hP hD hS hl
    unfold F_X7_findCan_54 at hF
    refine lv_iconst (v := 0) hx hb dX7_findCan_54 (by decide) ?_
    exact b55 _ hk16 _ _ _ _ _ _  hF H locs ls hP hD hS (lv_sub hl [0, 1, 2, 3] rfl)
  have b16 : ∀ (k2 : Mem → Int32 → Option Mem) (hk2 : ∀ (u : Mem) (v1 : Int32) , k2 u v1 = some u' → BW p l e s m below meth c 5 111 [.ref (a 0)] D (AM a) none (wlM cc a u') 4 (wlM cc a u) 2 [(0, .ref (a 0)), (1, .int v1)] []), ∀ (n : Nat) (u : Mem) (v1 : Int32) (v2 : Int32) (v3 : Int32) , F_X7_findCan_16 k2 n u v1 v2 v3 = some u' → BW p l e s m below meth c 5 111 [.ref (a 0)] D (AM a) none (wlM cc a u') 4 (wlM cc a u) 16 [(0, .ref (a 0)), (1, .int v1), (2, .int v2), (3, .int v3)] [] := by
    intro k2 hk2
    intro n
    induction n with
    | zero => intro u v1 v2 v3 hF; cases hF
    | succ n ih =>
      intro u v1 v2 v3 hF H locs ls hP hD hS hl
      unfold F_X7_findCan_16 at hF
      refine lv_iload_n hx hb dX7_findCan_16 rfl (lv_at hl 3 rfl) ?_
      refine lv_aload_n hx hb dX7_findCan_17 rfl (lv_at hl 0 rfl) ?_
      refine va_get_w S hK hP _ c_MO rfl igX7 0 (by decide) q879 rfl rfl dX7_findCan_18 ?_
      refine lv_iconst (v := 0) hx hb dX7_findCan_21 (by decide) ?_
      obtain ⟨hin7, hF⟩ := gd_some hF
      refine mIald S hK hP ⟨rfl, by decide⟩ rfl hin7 dX7_findCan_22 ?_
      refine lv_icmp_ge (tgt := 84) hx hb dX7_findCan_23 (by decide) (fun c8 => ?_) (fun c8 => ?_)
      · have hF := ite_t hF c8
        refine lv_aload_n hx hb dX7_findCan_84 rfl (lv_at hl 0 rfl) ?_
        refine va_get_w S hK hP _ c_MO rfl igX7 4 (by decide) q883 rfl rfl dX7_findCan_85 ?_
        refine lv_iload_n hx hb dX7_findCan_88 rfl (lv_at hl 2 rfl) ?_
        refine lv_iload_n hx hb dX7_findCan_89 rfl (lv_at hl 1 rfl) ?_
        obtain ⟨hin9, hF⟩ := gd_some hF
        refine mIast S hK hP hD hS ⟨rfl, by decide⟩ rfl hin9 dX7_findCan_90 (fun H locs hP hD hS => ?_)
        refine lv_inc1 (k := 1) (lv' := [(1, .int _), (0, .ref _), (2, .int _), (3, .int _)]) hx hb dX7_findCan_91 hl rfl (by decide) rfl (fun ls hl => ?_)
        refine lv_goto (tgt := 2) hx hb dX7_findCan_94 (by decide) ?_
        exact hk2 _ _  hF H locs ls hP hD hS (lv_sub hl [1, 0] rfl)
      · have hF := ite_f hF c8
        refine lv_aload_n hx hb dX7_findCan_26 rfl (lv_at hl 0 rfl) ?_
        refine va_get_w S hK hP _ c_MO rfl igX7 3 (by decide) q882 rfl rfl dX7_findCan_27 ?_
        refine lv_bipush (v := 12) hx hb dX7_findCan_30 (by decide) ?_
        refine lv_iload_n hx hb dX7_findCan_32 rfl (lv_at hl 1 rfl) ?_
        refine lv_imul hx hb dX7_findCan_33 ?_
        refine lv_iload_n hx hb dX7_findCan_34 rfl (lv_at hl 3 rfl) ?_
        refine lv_iadd hx hb dX7_findCan_35 ?_
        refine lv_iload_n hx hb dX7_findCan_36 rfl (lv_at hl 1 rfl) ?_
        refine lv_iload_n hx hb dX7_findCan_37 rfl (lv_at hl 3 rfl) ?_
        refine lv_icmp_eq (tgt := 54) hx hb dX7_findCan_38 (by decide) (fun c10 => ?_) (fun c10 => ?_)
        · have hF := ite_t hF c10
          exact b54 _ ih _ _ _ _ _  hF H locs ls hP hD hS (lv_sub hl [0, 1, 2, 3] rfl)
        · have hF := ite_f hF c10
          refine lv_aload_n hx hb dX7_findCan_41 rfl (lv_at hl 0 rfl) ?_
          refine lv_iload_n hx hb dX7_findCan_42 rfl (lv_at hl 1 rfl) ?_
          refine lv_iload_n hx hb dX7_findCan_43 rfl (lv_at hl 3 rfl) ?_
          obtain ⟨r12, u11, e13, hF⟩ := bdI_some hF
          refine MM.callVi (m_X7_canBe e13) k_X7_133 S emOK hEs hK ⟨by decide, by decide⟩ (va_recv hK hP rfl c_MO) rfl rfl hl.1 (Nat.le_of_ble_eq_true rfl) dX7_findCan_44 ⟨Nat.le_refl _, Nat.le_refl _⟩ hP hD hS (fun H locs hP hD hS => ?_)
          refine lv_if_eq (tgt := 54) hx hb dX7_findCan_47 (by decide) (fun c14 => ?_) (fun c14 => ?_)
          · have hF := ite_t hF c14
            exact b54 _ ih _ _ _ _ _  hF H locs ls hP hD hS (lv_sub hl [0, 1, 2, 3] rfl)
          · have hF := ite_f hF c14
            refine lv_iconst (v := 1) hx hb dX7_findCan_50 (by decide) ?_
            refine lv_goto (tgt := 55) hx hb dX7_findCan_51 (by decide) ?_
            exact b55 _ ih _ _ _ _ _ _  hF H locs ls hP hD hS (lv_sub hl [0, 1, 2, 3] rfl)
  have b2 : ∀ (n : Nat) (u : Mem) (v1 : Int32) , F_X7_findCan_2  n u v1 = some u' → BW p l e s m below meth c 5 111 [.ref (a 0)] D (AM a) none (wlM cc a u') 4 (wlM cc a u) 2 [(0, .ref (a 0)), (1, .int v1)] [] := by
    intro n
    induction n with
    | zero => intro u v1 hF; cases hF
    | succ n ih =>
      intro u v1 hF H locs ls hP hD hS hl
      unfold F_X7_findCan_2 at hF
      refine lv_iload_n hx hb dX7_findCan_2 rfl (lv_at hl 1 rfl) ?_
      refine lv_aload_n hx hb dX7_findCan_3 rfl (lv_at hl 0 rfl) ?_
      refine va_get_w S hK hP _ c_MO rfl igX7 0 (by decide) q879 rfl rfl dX7_findCan_4 ?_
      refine lv_iconst (v := 0) hx hb dX7_findCan_7 (by decide) ?_
      obtain ⟨hin15, hF⟩ := gd_some hF
      refine mIald S hK hP ⟨rfl, by decide⟩ rfl hin15 dX7_findCan_8 ?_
      refine lv_icmp_ge (tgt := 97) hx hb dX7_findCan_9 (by decide) (fun c16 => ?_) (fun c16 => ?_)
      · have hF := ite_t hF c16
        obtain rfl := sv_eq hF
        exact retV S hr hlocks hP hD hS dX7_findCan_97
      · have hF := ite_f hF c16
        refine lv_iconst (v := 0) hx hb dX7_findCan_12 (by decide) ?_
        refine lv_istore_n (lv' := [(2, .int _), (0, .ref _), (1, .int _)]) hx hb dX7_findCan_13 rfl hl (by decide) rfl (fun ls hl => ?_)
        refine lv_iconst (v := 0) hx hb dX7_findCan_14 (by decide) ?_
        refine lv_istore_n (lv' := [(3, .int _), (2, .int _), (0, .ref _), (1, .int _)]) hx hb dX7_findCan_15 rfl hl (by decide) rfl (fun ls hl => ?_)
        exact b16 _ ih _ _ _ _ _  hF H locs ls hP hD hS (lv_sub hl [2, 3, 1, 0] rfl)
  unfold F_X7_findCan at hF
  have b_main : BW p l e s m below meth c 5 111 [.ref (a 0)] D (AM a) none (wlM cc a u') 4 (wlM cc a u) 0 [(0, .ref (a 0))] [] := by
    intro H locs ls hP hD hS hl
    refine lv_iconst (v := 0) hx hb dX7_findCan_0 (by decide) ?_
    refine lv_istore_n (lv' := [(1, .int _), (0, .ref _)]) hx hb dX7_findCan_1 rfl hl (by decide) rfl (fun ls hl => ?_)
    exact b2 _ _ _  hF H locs ls hP hD hS (lv_sub hl [1, 0] rfl)
  have hl := lv_entry ([.ref (a 0)]) (n := 4) (Nat.le_of_ble_eq_true rfl)
  rw [lg_entry_eq]
  generalize (lg_sl ([.ref (a 0)]) ++ List.replicate (4 - (lg_sl ([.ref (a 0)])).length) Slot.unset).toArray = ls at hl ⊢
  exact b_main _ _ _ hP hD hS hl

set_option maxRecDepth 100000 in
set_option maxHeartbeats 4000000 in
theorem m_X7_has  {x0 : Int32} {x1 : Int32} {u u' : Mem} {r : Int32}  (hF : F_X7_has  u x0 x1 = some (r, u')) : MR l D cc a yX7_has cX7_has 2 (some .boolean) 0 0 [.int x0, .int x1] u (some (.int r)) u' := by
  refine MM.ofW (by decide) (fun p e s m below meth c S hr hlocks hK hEs hP hD hS => ?_)
  have S : CallFix p m c cX7_has 2 s _ gtbl RX7 := S
  obtain ⟨hx, hb, hml, hown, hts⟩ := id S
  have b14 : ∀  (u : Mem) (y0 : Int32) , F_X7_has_14  u y0 = some (r, u') → BW p l e s m below meth c 0 0 [.int x0, .int x1] D (AM a) (some (.int r)) (wlM cc a u') 2 (wlM cc a u) 14 [] [.int y0] := by
    intro  u y0 hF H locs ls hP hD hS hl
    unfold F_X7_has_14 at hF
    obtain ⟨hz1, hF⟩ := gz_some hF
    obtain ⟨rfl, rfl⟩ := sp_eq hF
    exact retZ S hr hlocks hP hD hS hz1 dX7_has_14
  unfold F_X7_has at hF
  have b_main : BW p l e s m below meth c 0 0 [.int x0, .int x1] D (AM a) (some (.int r)) (wlM cc a u') 2 (wlM cc a u) 0 [(0, .int x0), (1, .int x1)] [] := by
    intro H locs ls hP hD hS hl
    refine lv_iload_n hx hb dX7_has_0 rfl (lv_at hl 0 rfl) ?_
    refine lv_iload_n hx hb dX7_has_1 rfl (lv_at hl 1 rfl) ?_
    refine lv_ishr hx hb dX7_has_2 ?_
    refine lv_iconst (v := 1) hx hb dX7_has_3 (by decide) ?_
    refine lv_iand hx hb dX7_has_4 ?_
    refine lv_iconst (v := 1) hx hb dX7_has_5 (by decide) ?_
    refine lv_icmp_ne (tgt := 13) hx hb dX7_has_6 (by decide) (fun c2 => ?_) (fun c2 => ?_)
    · have hF := ite_f hF c2
      refine lv_iconst (v := 0) hx hb dX7_has_13 (by decide) ?_
      exact b14 _ _  hF H locs ls hP hD hS (lv_sub hl [] rfl)
    · have hF := ite_t hF c2
      refine lv_iconst (v := 1) hx hb dX7_has_9 (by decide) ?_
      refine lv_goto (tgt := 14) hx hb dX7_has_10 (by decide) ?_
      exact b14 _ _  hF H locs ls hP hD hS (lv_sub hl [] rfl)
  have hl := lv_entry ([.int x0, .int x1]) (n := 2) (Nat.le_of_ble_eq_true rfl)
  rw [lg_entry_eq]
  generalize (lg_sl ([.int x0, .int x1]) ++ List.replicate (2 - (lg_sl ([.int x0, .int x1])).length) Slot.unset).toArray = ls at hl ⊢
  exact b_main _ _ _ hP hD hS hl

set_option maxRecDepth 100000 in
set_option maxHeartbeats 4000000 in
theorem m_X7_lowest  {x0 : Int32} {u u' : Mem} {r : Int32}  (hF : F_X7_lowest  u x0 = some (r, u')) : MR l D cc a yX7_lowest cX7_lowest 2 (some .int) 1 21 [.int x0] u (some (.int r)) u' := by
  refine MM.ofW (by decide) (fun p e s m below meth c S hr hlocks hK hEs hP hD hS => ?_)
  have S : CallFix p m c cX7_lowest 2 s _ gtbl RX7 := S
  obtain ⟨hx, hb, hml, hown, hts⟩ := id S
  have b2 : ∀ (n : Nat) (u : Mem) (v0 : Int32) (v1 : Int32) , F_X7_lowest_2  n u v0 v1 = some (r, u') → BW p l e s m below meth c 1 21 [.int x0] D (AM a) (some (.int r)) (wlM cc a u') 2 (wlM cc a u) 2 [(0, .int v0), (1, .int v1)] [] := by
    intro n
    induction n with
    | zero => intro u v0 v1 hF; cases hF
    | succ n ih =>
      intro u v0 v1 hF H locs ls hP hD hS hl
      unfold F_X7_lowest_2 at hF
      refine lv_iload_n hx hb dX7_lowest_2 rfl (lv_at hl 0 rfl) ?_
      refine lv_iload_n hx hb dX7_lowest_3 rfl (lv_at hl 1 rfl) ?_
      obtain ⟨r2, u1, e3, hF⟩ := bdI_some hF
      refine MM.callSi (m_X7_has e3) k_X7_141 S emOK hEs hK ⟨by decide, by decide⟩ rfl rfl hl.1 (Nat.le_of_ble_eq_true rfl) dX7_lowest_4 ⟨Nat.le_refl _, Nat.le_refl _⟩ hP hD hS (fun H locs hP hD hS => ?_)
      refine lv_if_ne (tgt := 16) hx hb dX7_lowest_7 (by decide) (fun c4 => ?_) (fun c4 => ?_)
      · have hF := ite_f hF c4
        refine lv_iload_n hx hb dX7_lowest_16 rfl (lv_at hl 1 rfl) ?_
        obtain ⟨rfl, rfl⟩ := sp_eq hF
        exact retI S hr hlocks hP hD hS dX7_lowest_17
      · have hF := ite_t hF c4
        refine lv_inc1 (k := 1) (lv' := [(1, .int _), (0, .int _)]) hx hb dX7_lowest_10 hl rfl (by decide) rfl (fun ls hl => ?_)
        refine lv_goto (tgt := 2) hx hb dX7_lowest_13 (by decide) ?_
        exact ih _ _ _  hF H locs ls hP hD hS (lv_sub hl [1, 0] rfl)
  unfold F_X7_lowest at hF
  have b_main : BW p l e s m below meth c 1 21 [.int x0] D (AM a) (some (.int r)) (wlM cc a u') 2 (wlM cc a u) 0 [(0, .int x0)] [] := by
    intro H locs ls hP hD hS hl
    refine lv_iconst (v := 0) hx hb dX7_lowest_0 (by decide) ?_
    refine lv_istore_n (lv' := [(1, .int _), (0, .int _)]) hx hb dX7_lowest_1 rfl hl (by decide) rfl (fun ls hl => ?_)
    exact b2 _ _ _ _  hF H locs ls hP hD hS (lv_sub hl [1, 0] rfl)
  have hl := lv_entry ([.int x0]) (n := 2) (Nat.le_of_ble_eq_true rfl)
  rw [lg_entry_eq]
  generalize (lg_sl ([.int x0]) ++ List.replicate (2 - (lg_sl ([.int x0])).length) Slot.unset).toArray = ls at hl ⊢
  exact b_main _ _ _ hP hD hS hl

set_option maxRecDepth 100000 in
set_option maxHeartbeats 4000000 in
theorem m_X7_areOfOne  {x1 : Int32} {x2 : Int32} {u u' : Mem} {r : Int32}  (hF : F_X7_areOfOne  u x1 x2 = some (r, u')) : MR l D cc a yX7_areOfOne cX7_areOfOne 3 (some .boolean) 2 44 [.ref (a 0), .int x1, .int x2] u (some (.int r)) u' := by
  refine MM.ofW (by decide) (fun p e s m below meth c S hr hlocks hK hEs hP hD hS => ?_)
  have S : CallFix p m c cX7_areOfOne 3 s _ gtbl RX7 := S
  obtain ⟨hx, hb, hml, hown, hts⟩ := id S
  have b34 : ∀  (u : Mem) (y0 : Int32) , F_X7_areOfOne_34  u y0 = some (r, u') → BW p l e s m below meth c 2 44 [.ref (a 0), .int x1, .int x2] D (AM a) (some (.int r)) (wlM cc a u') 3 (wlM cc a u) 34 [] [.int y0] := by
    intro  u y0 hF H locs ls hP hD hS hl
    unfold F_X7_areOfOne_34 at hF
    obtain ⟨hz1, hF⟩ := gz_some hF
    obtain ⟨rfl, rfl⟩ := sp_eq hF
    exact retZ S hr hlocks hP hD hS hz1 dX7_areOfOne_34
  unfold F_X7_areOfOne at hF
  have b_main : BW p l e s m below meth c 2 44 [.ref (a 0), .int x1, .int x2] D (AM a) (some (.int r)) (wlM cc a u') 3 (wlM cc a u) 0 [(0, .ref (a 0)), (1, .int x1), (2, .int x2)] [] := by
    intro H locs ls hP hD hS hl
    refine lv_aload_n hx hb dX7_areOfOne_0 rfl (lv_at hl 0 rfl) ?_
    refine lv_iload_n hx hb dX7_areOfOne_1 rfl (lv_at hl 1 rfl) ?_
    refine lv_iload_n hx hb dX7_areOfOne_2 rfl (lv_at hl 2 rfl) ?_
    obtain ⟨r3, u2, e4, hF⟩ := bdI_some hF
    refine MM.callVi (m_X7_isEarlier e4) k_X7_138 S emOK hEs hK ⟨by decide, by decide⟩ (va_recv hK hP rfl c_MO) rfl rfl hl.1 (Nat.le_of_ble_eq_true rfl) dX7_areOfOne_3 ⟨Nat.le_refl _, Nat.le_refl _⟩ hP hD hS (fun H locs hP hD hS => ?_)
    refine lv_if_eq (tgt := 23) hx hb dX7_areOfOne_6 (by decide) (fun c5 => ?_) (fun c5 => ?_)
    · have hF := ite_t hF c5
      refine lv_aload_n hx hb dX7_areOfOne_23 rfl (lv_at hl 0 rfl) ?_
      refine va_get_w S hK hP _ c_MO rfl igX7 3 (by decide) q882 rfl rfl dX7_areOfOne_24 ?_
      refine lv_bipush (v := 12) hx hb dX7_areOfOne_27 (by decide) ?_
      refine lv_iload_n hx hb dX7_areOfOne_29 rfl (lv_at hl 2 rfl) ?_
      refine lv_imul hx hb dX7_areOfOne_30 ?_
      refine lv_iload_n hx hb dX7_areOfOne_31 rfl (lv_at hl 1 rfl) ?_
      refine lv_iadd hx hb dX7_areOfOne_32 ?_
      obtain ⟨hin6, hF⟩ := gd_some hF
      refine mZald S hK hP ⟨rfl, by decide⟩ rfl hin6 dX7_areOfOne_33 ?_
      exact b34 _ _  hF H locs ls hP hD hS (lv_sub hl [] rfl)
    · have hF := ite_f hF c5
      refine lv_aload_n hx hb dX7_areOfOne_9 rfl (lv_at hl 0 rfl) ?_
      refine va_get_w S hK hP _ c_MO rfl igX7 3 (by decide) q882 rfl rfl dX7_areOfOne_10 ?_
      refine lv_bipush (v := 12) hx hb dX7_areOfOne_13 (by decide) ?_
      refine lv_iload_n hx hb dX7_areOfOne_15 rfl (lv_at hl 1 rfl) ?_
      refine lv_imul hx hb dX7_areOfOne_16 ?_
      refine lv_iload_n hx hb dX7_areOfOne_17 rfl (lv_at hl 2 rfl) ?_
      refine lv_iadd hx hb dX7_areOfOne_18 ?_
      obtain ⟨hin7, hF⟩ := gd_some hF
      refine mZald S hK hP ⟨rfl, by decide⟩ rfl hin7 dX7_areOfOne_19 ?_
      refine lv_goto (tgt := 34) hx hb dX7_areOfOne_20 (by decide) ?_
      exact b34 _ _  hF H locs ls hP hD hS (lv_sub hl [] rfl)
  have hl := lv_entry ([.ref (a 0), .int x1, .int x2]) (n := 3) (Nat.le_of_ble_eq_true rfl)
  rw [lg_entry_eq]
  generalize (lg_sl ([.ref (a 0), .int x1, .int x2]) ++ List.replicate (3 - (lg_sl ([.ref (a 0), .int x1, .int x2])).length) Slot.unset).toArray = ls at hl ⊢
  exact b_main _ _ _ hP hD hS hl

set_option maxRecDepth 100000 in
set_option maxHeartbeats 4000000 in
theorem m_X7_isWithAll  {x1 : Int32} {x2 : Int32} {u u' : Mem} {r : Int32}  (hF : F_X7_isWithAll  u x1 x2 = some (r, u')) : MR l D cc a yX7_isWithAll cX7_isWithAll 5 (some .boolean) 3 66 [.ref (a 0), .int x1, .int x2] u (some (.int r)) u' := by
  refine MM.ofW (by decide) (fun p e s m below meth c S hr hlocks hK hEs hP hD hS => ?_)
  have S : CallFix p m c cX7_isWithAll 5 s _ gtbl RX7 := S
  obtain ⟨hx, hb, hml, hown, hts⟩ := id S
  have b50 : ∀ (k5 : Mem → Int32 → Int32 → Int32 → Int32 → Option (Int32 × Mem)) (hk5 : ∀ (u : Mem) (v1 : Int32) (v2 : Int32) (v3 : Int32) (v4 : Int32) , k5 u v1 v2 v3 v4 = some (r, u') → BW p l e s m below meth c 3 66 [.ref (a 0), .int x1, .int x2] D (AM a) (some (.int r)) (wlM cc a u') 5 (wlM cc a u) 5 [(0, .ref (a 0)), (1, .int v1), (2, .int v2), (3, .int v3), (4, .int v4)] []) (u : Mem) (v1 : Int32) (v2 : Int32) (v4 : Int32) (y0 : Int32) , F_X7_isWithAll_50 k5 u v1 v2 v4 y0 = some (r, u') → BW p l e s m below meth c 3 66 [.ref (a 0), .int x1, .int x2] D (AM a) (some (.int r)) (wlM cc a u') 5 (wlM cc a u) 50 [(0, .ref (a 0)), (1, .int v1), (2, .int v2), (4, .int v4)] [.int y0] := by
    intro k5 hk5 u v1 v2 v4 y0 hF H locs ls hP hD hS hl
    unfold F_X7_isWithAll_50 at hF
    refine lv_istore_n (lv' := [(3, .int _), (0, .ref _), (1, .int _), (2, .int _), (4, .int _)]) hx hb dX7_isWithAll_50 rfl hl (by decide) rfl (fun ls hl => ?_)
    refine lv_inc1 (k := 4) (lv' := [(4, .int _), (3, .int _), (0, .ref _), (1, .int _), (2, .int _)]) hx hb dX7_isWithAll_51 hl rfl (by decide) rfl (fun ls hl => ?_)
    refine lv_goto (tgt := 5) hx hb dX7_isWithAll_54 (by decide) ?_
    exact hk5 _ _ _ _ _  hF H locs ls hP hD hS (lv_sub hl [2, 3, 4, 1, 0] rfl)
  have b45 : ∀ (k5 : Mem → Int32 → Int32 → Int32 → Int32 → Option (Int32 × Mem)) (hk5 : ∀ (u : Mem) (v1 : Int32) (v2 : Int32) (v3 : Int32) (v4 : Int32) , k5 u v1 v2 v3 v4 = some (r, u') → BW p l e s m below meth c 3 66 [.ref (a 0), .int x1, .int x2] D (AM a) (some (.int r)) (wlM cc a u') 5 (wlM cc a u) 5 [(0, .ref (a 0)), (1, .int v1), (2, .int v2), (3, .int v3), (4, .int v4)] []) (u : Mem) (v1 : Int32) (v2 : Int32) (v4 : Int32) , F_X7_isWithAll_45 k5 u v1 v2 v4 = some (r, u') → BW p l e s m below meth c 3 66 [.ref (a 0), .int x1, .int x2] D (AM a) (some (.int r)) (wlM cc a u') 5 (wlM cc a u) 45 [(0, .ref (a 0)), (1, .int v1), (2, .int v2), (4, .int v4)] [] := by
    intro k5 hk5 u v1 v2 v4 hF H locs ls hP hD hS hl
    unfold F_X7_isWithAll_45 at hF
    refine lv_iconst (v := 1) hx hb dX7_isWithAll_45 (by decide) ?_
    refine lv_goto (tgt := 50) hx hb dX7_isWithAll_46 (by decide) ?_
    exact b50 _ hk5 _ _ _ _ _  hF H locs ls hP hD hS (lv_sub hl [0, 1, 2, 3] rfl)
  have b49 : ∀ (k5 : Mem → Int32 → Int32 → Int32 → Int32 → Option (Int32 × Mem)) (hk5 : ∀ (u : Mem) (v1 : Int32) (v2 : Int32) (v3 : Int32) (v4 : Int32) , k5 u v1 v2 v3 v4 = some (r, u') → BW p l e s m below meth c 3 66 [.ref (a 0), .int x1, .int x2] D (AM a) (some (.int r)) (wlM cc a u') 5 (wlM cc a u) 5 [(0, .ref (a 0)), (1, .int v1), (2, .int v2), (3, .int v3), (4, .int v4)] []) (u : Mem) (v1 : Int32) (v2 : Int32) (v4 : Int32) , F_X7_isWithAll_49 k5 u v1 v2 v4 = some (r, u') → BW p l e s m below meth c 3 66 [.ref (a 0), .int x1, .int x2] D (AM a) (some (.int r)) (wlM cc a u') 5 (wlM cc a u) 49 [(0, .ref (a 0)), (1, .int v1), (2, .int v2), (4, .int v4)] [] := by
    intro k5 hk5 u v1 v2 v4 hF H locs ls hP hD hS hl
    unfold F_X7_isWithAll_49 at hF
    refine lv_iconst (v := 0) hx hb dX7_isWithAll_49 (by decide) ?_
    exact b50 _ hk5 _ _ _ _ _  hF H locs ls hP hD hS (lv_sub hl [0, 1, 2, 3] rfl)
  have b5 : ∀ (n : Nat) (u : Mem) (v1 : Int32) (v2 : Int32) (v3 : Int32) (v4 : Int32) , F_X7_isWithAll_5  n u v1 v2 v3 v4 = some (r, u') → BW p l e s m below meth c 3 66 [.ref (a 0), .int x1, .int x2] D (AM a) (some (.int r)) (wlM cc a u') 5 (wlM cc a u) 5 [(0, .ref (a 0)), (1, .int v1), (2, .int v2), (3, .int v3), (4, .int v4)] [] := by
    intro n
    induction n with
    | zero => intro u v1 v2 v3 v4 hF; cases hF
    | succ n ih =>
      intro u v1 v2 v3 v4 hF H locs ls hP hD hS hl
      unfold F_X7_isWithAll_5 at hF
      refine lv_iload hx hb dX7_isWithAll_5 (lv_at hl 4 rfl) ?_
      refine lv_aload_n hx hb dX7_isWithAll_7 rfl (lv_at hl 0 rfl) ?_
      refine va_get_w S hK hP _ c_MO rfl igX7 0 (by decide) q879 rfl rfl dX7_isWithAll_8 ?_
      refine lv_iconst (v := 0) hx hb dX7_isWithAll_11 (by decide) ?_
      obtain ⟨hin1, hF⟩ := gd_some hF
      refine mIald S hK hP ⟨rfl, by decide⟩ rfl hin1 dX7_isWithAll_12 ?_
      refine lv_icmp_ge (tgt := 57) hx hb dX7_isWithAll_13 (by decide) (fun c2 => ?_) (fun c2 => ?_)
      · have hF := ite_t hF c2
        refine lv_iload_n hx hb dX7_isWithAll_57 rfl (lv_at hl 3 rfl) ?_
        obtain ⟨hz3, hF⟩ := gz_some hF
        obtain ⟨rfl, rfl⟩ := sp_eq hF
        exact retZ S hr hlocks hP hD hS hz3 dX7_isWithAll_58
      · have hF := ite_f hF c2
        refine lv_iload_n hx hb dX7_isWithAll_16 rfl (lv_at hl 3 rfl) ?_
        refine lv_if_eq (tgt := 49) hx hb dX7_isWithAll_17 (by decide) (fun c4 => ?_) (fun c4 => ?_)
        · have hF := ite_t hF c4
          exact b49 _ ih _ _ _ _  hF H locs ls hP hD hS (lv_sub hl [0, 1, 2, 4] rfl)
        · have hF := ite_f hF c4
          refine lv_iload_n hx hb dX7_isWithAll_20 rfl (lv_at hl 2 rfl) ?_
          refine lv_iload hx hb dX7_isWithAll_21 (lv_at hl 4 rfl) ?_
          obtain ⟨r6, u5, e7, hF⟩ := bdI_some hF
          refine MM.callSi (m_X7_has e7) k_X7_141 S emOK hEs hK ⟨by decide, by decide⟩ rfl rfl hl.1 (Nat.le_of_ble_eq_true rfl) dX7_isWithAll_23 ⟨Nat.le_refl _, Nat.le_refl _⟩ hP hD hS (fun H locs hP hD hS => ?_)
          refine lv_if_eq (tgt := 45) hx hb dX7_isWithAll_26 (by decide) (fun c8 => ?_) (fun c8 => ?_)
          · have hF := ite_t hF c8
            exact b45 _ ih _ _ _ _  hF H locs ls hP hD hS (lv_sub hl [0, 1, 2, 4] rfl)
          · have hF := ite_f hF c8
            refine lv_iload hx hb dX7_isWithAll_29 (lv_at hl 4 rfl) ?_
            refine lv_iload_n hx hb dX7_isWithAll_31 rfl (lv_at hl 1 rfl) ?_
            refine lv_icmp_eq (tgt := 45) hx hb dX7_isWithAll_32 (by decide) (fun c9 => ?_) (fun c9 => ?_)
            · have hF := ite_t hF c9
              exact b45 _ ih _ _ _ _  hF H locs ls hP hD hS (lv_sub hl [0, 1, 2, 4] rfl)
            · have hF := ite_f hF c9
              refine lv_aload_n hx hb dX7_isWithAll_35 rfl (lv_at hl 0 rfl) ?_
              refine lv_iload_n hx hb dX7_isWithAll_36 rfl (lv_at hl 1 rfl) ?_
              refine lv_iload hx hb dX7_isWithAll_37 (lv_at hl 4 rfl) ?_
              obtain ⟨r11, u10, e12, hF⟩ := bdI_some hF
              refine MM.callVi (m_X7_areOfOne e12) k_X7_144 S emOK hEs hK ⟨by decide, by decide⟩ (va_recv hK hP rfl c_MO) rfl rfl hl.1 (Nat.le_of_ble_eq_true rfl) dX7_isWithAll_39 ⟨Nat.le_refl _, Nat.le_refl _⟩ hP hD hS (fun H locs hP hD hS => ?_)
              refine lv_if_eq (tgt := 49) hx hb dX7_isWithAll_42 (by decide) (fun c13 => ?_) (fun c13 => ?_)
              · have hF := ite_t hF c13
                exact b49 _ ih _ _ _ _  hF H locs ls hP hD hS (lv_sub hl [0, 1, 2, 4] rfl)
              · have hF := ite_f hF c13
                exact b45 _ ih _ _ _ _  hF H locs ls hP hD hS (lv_sub hl [0, 1, 2, 4] rfl)
  unfold F_X7_isWithAll at hF
  have b_main : BW p l e s m below meth c 3 66 [.ref (a 0), .int x1, .int x2] D (AM a) (some (.int r)) (wlM cc a u') 5 (wlM cc a u) 0 [(0, .ref (a 0)), (1, .int x1), (2, .int x2)] [] := by
    intro H locs ls hP hD hS hl
    refine lv_iconst (v := 1) hx hb dX7_isWithAll_0 (by decide) ?_
    refine lv_istore_n (lv' := [(3, .int _), (0, .ref _), (1, .int _), (2, .int _)]) hx hb dX7_isWithAll_1 rfl hl (by decide) rfl (fun ls hl => ?_)
    refine lv_iconst (v := 0) hx hb dX7_isWithAll_2 (by decide) ?_
    refine lv_istore (lv' := [(4, .int _), (3, .int _), (0, .ref _), (1, .int _), (2, .int _)]) hx hb dX7_isWithAll_3 hl (by decide) rfl (fun ls hl => ?_)
    exact b5 _ _ _ _ _ _  hF H locs ls hP hD hS (lv_sub hl [2, 3, 4, 1, 0] rfl)
  have hl := lv_entry ([.ref (a 0), .int x1, .int x2]) (n := 5) (Nat.le_of_ble_eq_true rfl)
  rw [lg_entry_eq]
  generalize (lg_sl ([.ref (a 0), .int x1, .int x2]) ++ List.replicate (5 - (lg_sl ([.ref (a 0), .int x1, .int x2])).length) Slot.unset).toArray = ls at hl ⊢
  exact b_main _ _ _ hP hD hS hl

set_option maxRecDepth 100000 in
set_option maxHeartbeats 4000000 in
theorem m_X7_findRings   {u u' : Mem}  (hF : F_X7_findRings  u  = some u') : MR l D cc a yX7_findRings cX7_findRings 4 none 6 134 [.ref (a 0)] u none u' := by
  refine MM.ofW (by decide) (fun p e s m below meth c S hr hlocks hK hEs hP hD hS => ?_)
  have S : CallFix p m c cX7_findRings 4 s _ gtbl RX7 := S
  obtain ⟨hx, hb, hml, hown, hts⟩ := id S
  have b64 : ∀ (k13 : Mem → Int32 → Option Mem) (hk13 : ∀ (u : Mem) (v1 : Int32) , k13 u v1 = some u' → BW p l e s m below meth c 6 134 [.ref (a 0)] D (AM a) none (wlM cc a u') 4 (wlM cc a u) 13 [(0, .ref (a 0)), (1, .int v1)] []) (u : Mem) (v1 : Int32) (y1 : Int32) (y2 : Int32) , F_X7_findRings_64 k13 u v1 y1 y2 = some u' → BW p l e s m below meth c 6 134 [.ref (a 0)] D (AM a) none (wlM cc a u') 4 (wlM cc a u) 64 [(0, .ref (a 0)), (1, .int v1)] [.int y2, .int y1, .ref (a 6)] := by
    intro k13 hk13 u v1 y1 y2 hF H locs ls hP hD hS hl
    unfold F_X7_findRings_64 at hF
    obtain ⟨hin1, hF⟩ := gd_some hF
    refine mZast S hK hP hD hS ⟨rfl, by decide⟩ rfl hin1 dX7_findRings_64 (fun H locs hP hD hS => ?_)
    refine lv_inc1 (k := 1) (lv' := [(1, .int _), (0, .ref _)]) hx hb dX7_findRings_65 hl rfl (by decide) rfl (fun ls hl => ?_)
    refine lv_goto (tgt := 13) hx hb dX7_findRings_68 (by decide) ?_
    exact hk13 _ _  hF H locs ls hP hD hS (lv_sub hl [1, 0] rfl)
  have b63 : ∀ (k13 : Mem → Int32 → Option Mem) (hk13 : ∀ (u : Mem) (v1 : Int32) , k13 u v1 = some u' → BW p l e s m below meth c 6 134 [.ref (a 0)] D (AM a) none (wlM cc a u') 4 (wlM cc a u) 13 [(0, .ref (a 0)), (1, .int v1)] []) (u : Mem) (v1 : Int32) (y1 : Int32) , F_X7_findRings_63 k13 u v1 y1 = some u' → BW p l e s m below meth c 6 134 [.ref (a 0)] D (AM a) none (wlM cc a u') 4 (wlM cc a u) 63 [(0, .ref (a 0)), (1, .int v1)] [.int y1, .ref (a 6)] := by
    intro k13 hk13 u v1 y1 hF H locs ls hP hD hS hl
    unfold F_X7_findRings_63 at hF
    refine lv_iconst (v := 0) hx hb dX7_findRings_63 (by decide) ?_
    exact b64 _ hk13 _ _ _ _  hF H locs ls hP hD hS (lv_sub hl [0, 1] rfl)
  have b13 : ∀ (n : Nat) (u : Mem) (v1 : Int32) , F_X7_findRings_13  n u v1 = some u' → BW p l e s m below meth c 6 134 [.ref (a 0)] D (AM a) none (wlM cc a u') 4 (wlM cc a u) 13 [(0, .ref (a 0)), (1, .int v1)] [] := by
    intro n
    induction n with
    | zero => intro u v1 hF; cases hF
    | succ n ih =>
      intro u v1 hF H locs ls hP hD hS hl
      unfold F_X7_findRings_13 at hF
      refine lv_iload_n hx hb dX7_findRings_13 rfl (lv_at hl 1 rfl) ?_
      refine lv_iconst (v := 1) hx hb dX7_findRings_14 (by decide) ?_
      refine lv_aload_n hx hb dX7_findRings_15 rfl (lv_at hl 0 rfl) ?_
      refine va_get_w S hK hP _ c_MO rfl igX7 0 (by decide) q879 rfl rfl dX7_findRings_16 ?_
      refine lv_iconst (v := 0) hx hb dX7_findRings_19 (by decide) ?_
      obtain ⟨hin2, hF⟩ := gd_some hF
      refine mIald S hK hP ⟨rfl, by decide⟩ rfl hin2 dX7_findRings_20 ?_
      refine lv_ishl hx hb dX7_findRings_21 ?_
      refine lv_icmp_ge (tgt := 71) hx hb dX7_findRings_22 (by decide) (fun c3 => ?_) (fun c3 => ?_)
      · have hF := ite_t hF c3
        obtain rfl := sv_eq hF
        exact retV S hr hlocks hP hD hS dX7_findRings_71
      · have hF := ite_f hF c3
        refine lv_iload_n hx hb dX7_findRings_25 rfl (lv_at hl 1 rfl) ?_
        obtain ⟨r5, u4, e6, hF⟩ := bdI_some hF
        refine MM.callSi (m_X7_lowest e6) k_X7_150 S emOK hEs hK ⟨by decide, by decide⟩ rfl rfl hl.1 (Nat.le_of_ble_eq_true rfl) dX7_findRings_26 ⟨Nat.le_refl _, Nat.le_refl _⟩ hP hD hS (fun H locs hP hD hS => ?_)
        refine lv_istore_n (lv' := [(2, .int _), (0, .ref _), (1, .int _)]) hx hb dX7_findRings_29 rfl hl (by decide) rfl (fun ls hl => ?_)
        refine lv_iload_n hx hb dX7_findRings_30 rfl (lv_at hl 2 rfl) ?_
        refine lv_iload_n hx hb dX7_findRings_31 rfl (lv_at hl 2 rfl) ?_
        refine lv_iconst (v := 1) hx hb dX7_findRings_32 (by decide) ?_
        refine lv_isub hx hb dX7_findRings_33 ?_
        refine lv_iand hx hb dX7_findRings_34 ?_
        refine lv_istore_n (lv' := [(3, .int _), (2, .int _), (0, .ref _), (1, .int _)]) hx hb dX7_findRings_35 rfl hl (by decide) rfl (fun ls hl => ?_)
        refine lv_aload_n hx hb dX7_findRings_36 rfl (lv_at hl 2 rfl) ?_
        refine va_get_w S hK hP _ c_MO rfl igX7 5 (by decide) q884 rfl rfl dX7_findRings_37 ?_
        refine lv_iload_n hx hb dX7_findRings_40 rfl (lv_at hl 3 rfl) ?_
        refine lv_aload_n hx hb dX7_findRings_41 rfl (lv_at hl 2 rfl) ?_
        refine va_get_w S hK hP _ c_MO rfl igX7 5 (by decide) q884 rfl rfl dX7_findRings_42 ?_
        refine lv_iload_n hx hb dX7_findRings_45 rfl (lv_at hl 0 rfl) ?_
        obtain ⟨hin7, hF⟩ := gd_some hF
        refine mZald S hK hP ⟨rfl, by decide⟩ rfl hin7 dX7_findRings_46 ?_
        refine lv_if_eq (tgt := 63) hx hb dX7_findRings_47 (by decide) (fun c8 => ?_) (fun c8 => ?_)
        · have hF := ite_t hF c8
          exact b63 _ ih _ _ _  hF H locs ls hP hD hS (lv_sub hl [2, 3] rfl)
        · have hF := ite_f hF c8
          refine lv_aload_n hx hb dX7_findRings_50 rfl (lv_at hl 2 rfl) ?_
          refine lv_iload_n hx hb dX7_findRings_51 rfl (lv_at hl 1 rfl) ?_
          refine lv_iload_n hx hb dX7_findRings_52 rfl (lv_at hl 0 rfl) ?_
          obtain ⟨r10, u9, e11, hF⟩ := bdI_some hF
          refine MM.callVi (m_X7_isWithAll e11) k_X7_153 S emOK hEs hK ⟨by decide, by decide⟩ (va_recv hK hP rfl c_MO) rfl rfl hl.1 (Nat.le_of_ble_eq_true rfl) dX7_findRings_53 ⟨Nat.le_refl _, Nat.le_refl _⟩ hP hD hS (fun H locs hP hD hS => ?_)
          refine lv_if_eq (tgt := 63) hx hb dX7_findRings_56 (by decide) (fun c12 => ?_) (fun c12 => ?_)
          · have hF := ite_t hF c12
            exact b63 _ ih _ _ _  hF H locs ls hP hD hS (lv_sub hl [2, 3] rfl)
          · have hF := ite_f hF c12
            refine lv_iconst (v := 1) hx hb dX7_findRings_59 (by decide) ?_
            refine lv_goto (tgt := 64) hx hb dX7_findRings_60 (by decide) ?_
            exact b64 _ ih _ _ _ _  hF H locs ls hP hD hS (lv_sub hl [2, 3] rfl)
  unfold F_X7_findRings at hF
  have b_main : BW p l e s m below meth c 6 134 [.ref (a 0)] D (AM a) none (wlM cc a u') 4 (wlM cc a u) 0 [(0, .ref (a 0))] [] := by
    intro H locs ls hP hD hS hl
    refine lv_aload_n hx hb dX7_findRings_0 rfl (lv_at hl 0 rfl) ?_
    obtain ⟨u13, e15, hF⟩ := bdV_some hF
    refine MM.callVv (m_X7_findCan e15) k_X7_147 S emOK hEs hK ⟨by decide, by decide⟩ (va_recv hK hP rfl c_MO) rfl rfl hl.1 (Nat.le_of_ble_eq_true rfl) dX7_findRings_1 ⟨Nat.le_refl _, Nat.le_refl _⟩ hP hD hS (fun H locs hP hD hS => ?_)
    refine lv_aload_n hx hb dX7_findRings_4 rfl (lv_at hl 0 rfl) ?_
    refine va_get_w S hK hP _ c_MO rfl igX7 5 (by decide) q884 rfl rfl dX7_findRings_5 ?_
    refine lv_iconst (v := 0) hx hb dX7_findRings_8 (by decide) ?_
    refine lv_iconst (v := 1) hx hb dX7_findRings_9 (by decide) ?_
    obtain ⟨hin16, hF⟩ := gd_some hF
    refine mZast S hK hP hD hS ⟨rfl, by decide⟩ rfl hin16 dX7_findRings_10 (fun H locs hP hD hS => ?_)
    refine lv_iconst (v := 1) hx hb dX7_findRings_11 (by decide) ?_
    refine lv_istore_n (lv' := [(1, .int _), (0, .ref _)]) hx hb dX7_findRings_12 rfl hl (by decide) rfl (fun ls hl => ?_)
    exact b13 _ _ _  hF H locs ls hP hD hS (lv_sub hl [1, 0] rfl)
  have hl := lv_entry ([.ref (a 0)]) (n := 4) (Nat.le_of_ble_eq_true rfl)
  rw [lg_entry_eq]
  generalize (lg_sl ([.ref (a 0)]) ++ List.replicate (4 - (lg_sl ([.ref (a 0)])).length) Slot.unset).toArray = ls at hl ⊢
  exact b_main _ _ _ hP hD hS hl

set_option maxRecDepth 100000 in
set_option maxHeartbeats 4000000 in
theorem m_X7_ring  {x1 : Int32} {u u' : Mem} {r : Int32}  (hF : F_X7_ring  u x1 = some (r, u')) : MR l D cc a yX7_ring cX7_ring 2 (some .int) 7 157 [.ref (a 0), .int x1] u (some (.int r)) u' := by
  refine MM.ofW (by decide) (fun p e s m below meth c S hr hlocks hK hEs hP hD hS => ?_)
  have S : CallFix p m c cX7_ring 2 s _ gtbl RX7 := S
  obtain ⟨hx, hb, hml, hown, hts⟩ := id S
  have b33 : ∀  (u : Mem) (y0 : Int32) , F_X7_ring_33  u y0 = some (r, u') → BW p l e s m below meth c 7 157 [.ref (a 0), .int x1] D (AM a) (some (.int r)) (wlM cc a u') 2 (wlM cc a u) 33 [] [.int y0] := by
    intro  u y0 hF H locs ls hP hD hS hl
    unfold F_X7_ring_33 at hF
    obtain ⟨rfl, rfl⟩ := sp_eq hF
    exact retI S hr hlocks hP hD hS dX7_ring_33
  unfold F_X7_ring at hF
  have b_main : BW p l e s m below meth c 7 157 [.ref (a 0), .int x1] D (AM a) (some (.int r)) (wlM cc a u') 2 (wlM cc a u) 0 [(0, .ref (a 0)), (1, .int x1)] [] := by
    intro H locs ls hP hD hS hl
    refine lv_aload_n hx hb dX7_ring_0 rfl (lv_at hl 0 rfl) ?_
    refine lv_iload_n hx hb dX7_ring_1 rfl (lv_at hl 1 rfl) ?_
    obtain ⟨r2, u1, e3, hF⟩ := bdI_some hF
    refine MM.callVi (m_X7_isSet e3) k_X7_156 S emOK hEs hK ⟨by decide, by decide⟩ (va_recv hK hP rfl c_MO) rfl rfl hl.1 (Nat.le_of_ble_eq_true rfl) dX7_ring_2 ⟨Nat.le_refl _, Nat.le_refl _⟩ hP hD hS (fun H locs hP hD hS => ?_)
    refine lv_if_ne (tgt := 15) hx hb dX7_ring_5 (by decide) (fun c4 => ?_) (fun c4 => ?_)
    · have hF := ite_f hF c4
      refine lv_aload_n hx hb dX7_ring_15 rfl (lv_at hl 0 rfl) ?_
      obtain ⟨u5, e7, hF⟩ := bdV_some hF
      refine MM.callVv (m_X7_findRings e7) k_X7_159 S emOK hEs hK ⟨by decide, by decide⟩ (va_recv hK hP rfl c_MO) rfl rfl hl.1 (Nat.le_of_ble_eq_true rfl) dX7_ring_16 ⟨Nat.le_refl _, Nat.le_refl _⟩ hP hD hS (fun H locs hP hD hS => ?_)
      refine lv_aload_n hx hb dX7_ring_19 rfl (lv_at hl 0 rfl) ?_
      refine va_get_w S hK hP _ c_MO rfl igX7 5 (by decide) q884 rfl rfl dX7_ring_20 ?_
      refine lv_iload_n hx hb dX7_ring_23 rfl (lv_at hl 1 rfl) ?_
      obtain ⟨hin8, hF⟩ := gd_some hF
      refine mZald S hK hP ⟨rfl, by decide⟩ rfl hin8 dX7_ring_24 ?_
      refine lv_if_eq (tgt := 32) hx hb dX7_ring_25 (by decide) (fun c9 => ?_) (fun c9 => ?_)
      · have hF := ite_t hF c9
        refine lv_iconst (v := 0) hx hb dX7_ring_32 (by decide) ?_
        exact b33 _ _  hF H locs ls hP hD hS (lv_sub hl [] rfl)
      · have hF := ite_f hF c9
        refine lv_iconst (v := 1) hx hb dX7_ring_28 (by decide) ?_
        refine lv_goto (tgt := 33) hx hb dX7_ring_29 (by decide) ?_
        exact b33 _ _  hF H locs ls hP hD hS (lv_sub hl [] rfl)
    · have hF := ite_t hF c4
      refine lv_aload_n hx hb dX7_ring_8 rfl (lv_at hl 0 rfl) ?_
      refine lv_ldc hx hb hown (hts _ q966) dX7_ring_9 ?_
      obtain ⟨r11, u10, e12, hF⟩ := bdI_some hF
      refine MM.callVi (m_X7_finds e12) k_X7_94 S emOK hEs hK ⟨by decide, by decide⟩ (va_recv hK hP rfl c_MO) rfl rfl hl.1 (Nat.le_of_ble_eq_true rfl) dX7_ring_11 ⟨Nat.le_refl _, Nat.le_refl _⟩ hP hD hS (fun H locs hP hD hS => ?_)
      obtain ⟨rfl, rfl⟩ := sp_eq hF
      exact retI S hr hlocks hP hD hS dX7_ring_14
  have hl := lv_entry ([.ref (a 0), .int x1]) (n := 2) (Nat.le_of_ble_eq_true rfl)
  rw [lg_entry_eq]
  generalize (lg_sl ([.ref (a 0), .int x1]) ++ List.replicate (2 - (lg_sl ([.ref (a 0), .int x1])).length) Slot.unset).toArray = ls at hl ⊢
  exact b_main _ _ _ hP hD hS hl

set_option maxRecDepth 100000 in
set_option maxHeartbeats 4000000 in
theorem m_X7_ones  {x0 : Int32} {u u' : Mem} {r : Int32}  (hF : F_X7_ones  u x0 = some (r, u')) : MR l D cc a yX7_ones cX7_ones 3 (some .int) 0 0 [.int x0] u (some (.int r)) u' := by
  refine MM.ofW (by decide) (fun p e s m below meth c S hr hlocks hK hEs hP hD hS => ?_)
  have S : CallFix p m c cX7_ones 3 s _ gtbl RX7 := S
  obtain ⟨hx, hb, hml, hown, hts⟩ := id S
  have b4 : ∀ (n : Nat) (u : Mem) (v1 : Int32) (v2 : Int32) , F_X7_ones_4  n u v1 v2 = some (r, u') → BW p l e s m below meth c 0 0 [.int x0] D (AM a) (some (.int r)) (wlM cc a u') 3 (wlM cc a u) 4 [(1, .int v1), (2, .int v2)] [] := by
    intro n
    induction n with
    | zero => intro u v1 v2 hF; cases hF
    | succ n ih =>
      intro u v1 v2 hF H locs ls hP hD hS hl
      unfold F_X7_ones_4 at hF
      refine lv_iload_n hx hb dX7_ones_4 rfl (lv_at hl 1 rfl) ?_
      refine lv_if_eq (tgt := 20) hx hb dX7_ones_5 (by decide) (fun c1 => ?_) (fun c1 => ?_)
      · have hF := ite_t hF c1
        refine lv_iload_n hx hb dX7_ones_20 rfl (lv_at hl 0 rfl) ?_
        obtain ⟨rfl, rfl⟩ := sp_eq hF
        exact retI S hr hlocks hP hD hS dX7_ones_21
      · have hF := ite_f hF c1
        refine lv_inc1 (k := 0) (lv' := [(1, .int _), (2, .int _)]) hx hb dX7_ones_8 hl rfl (by decide) rfl (fun ls hl => ?_)
        refine lv_iload_n hx hb dX7_ones_11 rfl (lv_at hl 1 rfl) ?_
        refine lv_iload_n hx hb dX7_ones_12 rfl (lv_at hl 1 rfl) ?_
        refine lv_iconst (v := 1) hx hb dX7_ones_13 (by decide) ?_
        refine lv_isub hx hb dX7_ones_14 ?_
        refine lv_iand hx hb dX7_ones_15 ?_
        refine lv_istore_n (lv' := [(2, .int _), (1, .int _)]) hx hb dX7_ones_16 rfl hl (by decide) rfl (fun ls hl => ?_)
        refine lv_goto (tgt := 4) hx hb dX7_ones_17 (by decide) ?_
        exact ih _ _ _  hF H locs ls hP hD hS (lv_sub hl [1, 0] rfl)
  unfold F_X7_ones at hF
  have b_main : BW p l e s m below meth c 0 0 [.int x0] D (AM a) (some (.int r)) (wlM cc a u') 3 (wlM cc a u) 0 [(0, .int x0)] [] := by
    intro H locs ls hP hD hS hl
    refine lv_iconst (v := 0) hx hb dX7_ones_0 (by decide) ?_
    refine lv_istore_n (lv' := [(1, .int _), (0, .int _)]) hx hb dX7_ones_1 rfl hl (by decide) rfl (fun ls hl => ?_)
    refine lv_iload_n hx hb dX7_ones_2 rfl (lv_at hl 1 rfl) ?_
    refine lv_istore_n (lv' := [(2, .int _), (1, .int _), (0, .int _)]) hx hb dX7_ones_3 rfl hl (by decide) rfl (fun ls hl => ?_)
    exact b4 _ _ _ _  hF H locs ls hP hD hS (lv_sub hl [1, 0] rfl)
  have hl := lv_entry ([.int x0]) (n := 3) (Nat.le_of_ble_eq_true rfl)
  rw [lg_entry_eq]
  generalize (lg_sl ([.int x0]) ++ List.replicate (3 - (lg_sl ([.int x0])).length) Slot.unset).toArray = ls at hl ⊢
  exact b_main _ _ _ hP hD hS hl

set_option maxRecDepth 100000 in
set_option maxHeartbeats 4000000 in
theorem m_X7_bestOf  {x1 : Int32} {u u' : Mem} {r : Int32}  (hF : F_X7_bestOf  u x1 = some (r, u')) : MR l D cc a yX7_bestOf cX7_bestOf 5 (some .int) 7 157 [.ref (a 0), .int x1] u (some (.int r)) u' := by
  refine MM.ofW (by decide) (fun p e s m below meth c S hr hlocks hK hEs hP hD hS => ?_)
  have S : CallFix p m c cX7_bestOf 5 s _ gtbl RX7 := S
  obtain ⟨hx, hb, hml, hown, hts⟩ := id S
  have b58 : ∀ (k8 : Mem → Int32 → Int32 → Int32 → Option (Int32 × Mem)) (hk8 : ∀ (u : Mem) (v1 : Int32) (v2 : Int32) (v3 : Int32) , k8 u v1 v2 v3 = some (r, u') → BW p l e s m below meth c 7 157 [.ref (a 0), .int x1] D (AM a) (some (.int r)) (wlM cc a u') 5 (wlM cc a u) 8 [(0, .ref (a 0)), (1, .int v1), (2, .int v2), (3, .int v3)] []) (u : Mem) (v1 : Int32) (v3 : Int32) (y0 : Int32) , F_X7_bestOf_58 k8 u v1 v3 y0 = some (r, u') → BW p l e s m below meth c 7 157 [.ref (a 0), .int x1] D (AM a) (some (.int r)) (wlM cc a u') 5 (wlM cc a u) 58 [(0, .ref (a 0)), (1, .int v1), (3, .int v3)] [.int y0] := by
    intro k8 hk8 u v1 v3 y0 hF H locs ls hP hD hS hl
    unfold F_X7_bestOf_58 at hF
    refine lv_istore_n (lv' := [(2, .int _), (0, .ref _), (1, .int _), (3, .int _)]) hx hb dX7_bestOf_58 rfl hl (by decide) rfl (fun ls hl => ?_)
    refine lv_inc1 (k := 3) (lv' := [(3, .int _), (2, .int _), (0, .ref _), (1, .int _)]) hx hb dX7_bestOf_59 hl rfl (by decide) rfl (fun ls hl => ?_)
    refine lv_goto (tgt := 8) hx hb dX7_bestOf_62 (by decide) ?_
    exact hk8 _ _ _ _  hF H locs ls hP hD hS (lv_sub hl [2, 3, 1, 0] rfl)
  have b57 : ∀ (k8 : Mem → Int32 → Int32 → Int32 → Option (Int32 × Mem)) (hk8 : ∀ (u : Mem) (v1 : Int32) (v2 : Int32) (v3 : Int32) , k8 u v1 v2 v3 = some (r, u') → BW p l e s m below meth c 7 157 [.ref (a 0), .int x1] D (AM a) (some (.int r)) (wlM cc a u') 5 (wlM cc a u) 8 [(0, .ref (a 0)), (1, .int v1), (2, .int v2), (3, .int v3)] []) (u : Mem) (v1 : Int32) (v2 : Int32) (v3 : Int32) , F_X7_bestOf_57 k8 u v1 v2 v3 = some (r, u') → BW p l e s m below meth c 7 157 [.ref (a 0), .int x1] D (AM a) (some (.int r)) (wlM cc a u') 5 (wlM cc a u) 57 [(0, .ref (a 0)), (1, .int v1), (2, .int v2), (3, .int v3)] [] := by
    intro k8 hk8 u v1 v2 v3 hF H locs ls hP hD hS hl
    unfold F_X7_bestOf_57 at hF
    refine lv_iload_n hx hb dX7_bestOf_57 rfl (lv_at hl 2 rfl) ?_
    exact b58 _ hk8 _ _ _ _  hF H locs ls hP hD hS (lv_sub hl [0, 1, 3] rfl)
  have b35 : ∀ (k8 : Mem → Int32 → Int32 → Int32 → Option (Int32 × Mem)) (hk8 : ∀ (u : Mem) (v1 : Int32) (v2 : Int32) (v3 : Int32) , k8 u v1 v2 v3 = some (r, u') → BW p l e s m below meth c 7 157 [.ref (a 0), .int x1] D (AM a) (some (.int r)) (wlM cc a u') 5 (wlM cc a u) 8 [(0, .ref (a 0)), (1, .int v1), (2, .int v2), (3, .int v3)] []) (u : Mem) (v1 : Int32) (v2 : Int32) (v3 : Int32) (y0 : Int32) , F_X7_bestOf_35 k8 u v1 v2 v3 y0 = some (r, u') → BW p l e s m below meth c 7 157 [.ref (a 0), .int x1] D (AM a) (some (.int r)) (wlM cc a u') 5 (wlM cc a u) 35 [(0, .ref (a 0)), (1, .int v1), (2, .int v2), (3, .int v3)] [.int y0] := by
    intro k8 hk8 u v1 v2 v3 y0 hF H locs ls hP hD hS hl
    unfold F_X7_bestOf_35 at hF
    refine lv_istore (lv' := [(4, .int _), (0, .ref _), (1, .int _), (2, .int _), (3, .int _)]) hx hb dX7_bestOf_35 hl (by decide) rfl (fun ls hl => ?_)
    refine lv_iload hx hb dX7_bestOf_37 (lv_at hl 0 rfl) ?_
    refine lv_if_eq (tgt := 57) hx hb dX7_bestOf_39 (by decide) (fun c1 => ?_) (fun c1 => ?_)
    · have hF := ite_t hF c1
      exact b57 _ hk8 _ _ _ _  hF H locs ls hP hD hS (lv_sub hl [1, 2, 3, 4] rfl)
    · have hF := ite_f hF c1
      refine lv_iload_n hx hb dX7_bestOf_42 rfl (lv_at hl 4 rfl) ?_
      obtain ⟨r3, u2, e4, hF⟩ := bdI_some hF
      refine MM.callSi (m_X7_ones e4) k_X7_162 S emOK hEs hK ⟨by decide, by decide⟩ rfl rfl hl.1 (Nat.le_of_ble_eq_true rfl) dX7_bestOf_43 ⟨Nat.le_refl _, Nat.le_refl _⟩ hP hD hS (fun H locs hP hD hS => ?_)
      refine lv_iload_n hx hb dX7_bestOf_46 rfl (lv_at hl 3 rfl) ?_
      obtain ⟨r6, u5, e7, hF⟩ := bdI_some hF
      refine MM.callSi (m_X7_ones e7) k_X7_162 S emOK hEs hK ⟨by decide, by decide⟩ rfl rfl hl.1 (Nat.le_of_ble_eq_true rfl) dX7_bestOf_47 ⟨Nat.le_refl _, Nat.le_refl _⟩ hP hD hS (fun H locs hP hD hS => ?_)
      refine lv_icmp_le (tgt := 57) hx hb dX7_bestOf_50 (by decide) (fun c8 => ?_) (fun c8 => ?_)
      · have hF := ite_t hF c8
        exact b57 _ hk8 _ _ _ _  hF H locs ls hP hD hS (lv_sub hl [1, 2, 3, 4] rfl)
      · have hF := ite_f hF c8
        refine lv_iload_n hx hb dX7_bestOf_53 rfl (lv_at hl 4 rfl) ?_
        refine lv_goto (tgt := 58) hx hb dX7_bestOf_54 (by decide) ?_
        exact b58 _ hk8 _ _ _ _  hF H locs ls hP hD hS (lv_sub hl [1, 2, 4] rfl)
  have b34 : ∀ (k8 : Mem → Int32 → Int32 → Int32 → Option (Int32 × Mem)) (hk8 : ∀ (u : Mem) (v1 : Int32) (v2 : Int32) (v3 : Int32) , k8 u v1 v2 v3 = some (r, u') → BW p l e s m below meth c 7 157 [.ref (a 0), .int x1] D (AM a) (some (.int r)) (wlM cc a u') 5 (wlM cc a u) 8 [(0, .ref (a 0)), (1, .int v1), (2, .int v2), (3, .int v3)] []) (u : Mem) (v1 : Int32) (v2 : Int32) (v3 : Int32) , F_X7_bestOf_34 k8 u v1 v2 v3 = some (r, u') → BW p l e s m below meth c 7 157 [.ref (a 0), .int x1] D (AM a) (some (.int r)) (wlM cc a u') 5 (wlM cc a u) 34 [(0, .ref (a 0)), (1, .int v1), (2, .int v2), (3, .int v3)] [] := by
    intro k8 hk8 u v1 v2 v3 hF H locs ls hP hD hS hl
    unfold F_X7_bestOf_34 at hF
    refine lv_iconst (v := 0) hx hb dX7_bestOf_34 (by decide) ?_
    exact b35 _ hk8 _ _ _ _ _  hF H locs ls hP hD hS (lv_sub hl [0, 1, 2, 3] rfl)
  have b8 : ∀ (n : Nat) (u : Mem) (v1 : Int32) (v2 : Int32) (v3 : Int32) , F_X7_bestOf_8  n u v1 v2 v3 = some (r, u') → BW p l e s m below meth c 7 157 [.ref (a 0), .int x1] D (AM a) (some (.int r)) (wlM cc a u') 5 (wlM cc a u) 8 [(0, .ref (a 0)), (1, .int v1), (2, .int v2), (3, .int v3)] [] := by
    intro n
    induction n with
    | zero => intro u v1 v2 v3 hF; cases hF
    | succ n ih =>
      intro u v1 v2 v3 hF H locs ls hP hD hS hl
      unfold F_X7_bestOf_8 at hF
      refine lv_iload_n hx hb dX7_bestOf_8 rfl (lv_at hl 3 rfl) ?_
      refine lv_iload_n hx hb dX7_bestOf_9 rfl (lv_at hl 1 rfl) ?_
      refine lv_icmp_gt (tgt := 65) hx hb dX7_bestOf_10 (by decide) (fun c9 => ?_) (fun c9 => ?_)
      · have hF := ite_t hF c9
        refine lv_iload_n hx hb dX7_bestOf_65 rfl (lv_at hl 2 rfl) ?_
        obtain ⟨rfl, rfl⟩ := sp_eq hF
        exact retI S hr hlocks hP hD hS dX7_bestOf_66
      · have hF := ite_f hF c9
        refine lv_iload_n hx hb dX7_bestOf_13 rfl (lv_at hl 3 rfl) ?_
        refine lv_iload_n hx hb dX7_bestOf_14 rfl (lv_at hl 1 rfl) ?_
        refine lv_iconst (v := -1) hx hb dX7_bestOf_15 (by decide) ?_
        refine lv_ixor hx hb dX7_bestOf_16 ?_
        refine lv_iand hx hb dX7_bestOf_17 ?_
        refine lv_if_ne (tgt := 34) hx hb dX7_bestOf_18 (by decide) (fun c10 => ?_) (fun c10 => ?_)
        · have hF := ite_f hF c10
          exact b34 _ ih _ _ _ _  hF H locs ls hP hD hS (lv_sub hl [0, 1, 2, 3] rfl)
        · have hF := ite_t hF c10
          refine lv_aload_n hx hb dX7_bestOf_21 rfl (lv_at hl 0 rfl) ?_
          refine va_get_w S hK hP _ c_MO rfl igX7 5 (by decide) q884 rfl rfl dX7_bestOf_22 ?_
          refine lv_iload_n hx hb dX7_bestOf_25 rfl (lv_at hl 3 rfl) ?_
          obtain ⟨hin11, hF⟩ := gd_some hF
          refine mZald S hK hP ⟨rfl, by decide⟩ rfl hin11 dX7_bestOf_26 ?_
          refine lv_if_eq (tgt := 34) hx hb dX7_bestOf_27 (by decide) (fun c12 => ?_) (fun c12 => ?_)
          · have hF := ite_t hF c12
            exact b34 _ ih _ _ _ _  hF H locs ls hP hD hS (lv_sub hl [0, 1, 2, 3] rfl)
          · have hF := ite_f hF c12
            refine lv_iconst (v := 1) hx hb dX7_bestOf_30 (by decide) ?_
            refine lv_goto (tgt := 35) hx hb dX7_bestOf_31 (by decide) ?_
            exact b35 _ ih _ _ _ _ _  hF H locs ls hP hD hS (lv_sub hl [0, 1, 2, 3] rfl)
  unfold F_X7_bestOf at hF
  have b_main : BW p l e s m below meth c 7 157 [.ref (a 0), .int x1] D (AM a) (some (.int r)) (wlM cc a u') 5 (wlM cc a u) 0 [(0, .ref (a 0)), (1, .int x1)] [] := by
    intro H locs ls hP hD hS hl
    refine lv_aload_n hx hb dX7_bestOf_0 rfl (lv_at hl 0 rfl) ?_
    obtain ⟨u13, e15, hF⟩ := bdV_some hF
    refine MM.callVv (m_X7_findRings e15) k_X7_159 S emOK hEs hK ⟨by decide, by decide⟩ (va_recv hK hP rfl c_MO) rfl rfl hl.1 (Nat.le_of_ble_eq_true rfl) dX7_bestOf_1 ⟨Nat.le_refl _, Nat.le_refl _⟩ hP hD hS (fun H locs hP hD hS => ?_)
    refine lv_iconst (v := 0) hx hb dX7_bestOf_4 (by decide) ?_
    refine lv_istore_n (lv' := [(2, .int _), (0, .ref _), (1, .int _)]) hx hb dX7_bestOf_5 rfl hl (by decide) rfl (fun ls hl => ?_)
    refine lv_iconst (v := 1) hx hb dX7_bestOf_6 (by decide) ?_
    refine lv_istore_n (lv' := [(3, .int _), (2, .int _), (0, .ref _), (1, .int _)]) hx hb dX7_bestOf_7 rfl hl (by decide) rfl (fun ls hl => ?_)
    exact b8 _ _ _ _ _  hF H locs ls hP hD hS (lv_sub hl [2, 3, 1, 0] rfl)
  have hl := lv_entry ([.ref (a 0), .int x1]) (n := 5) (Nat.le_of_ble_eq_true rfl)
  rw [lg_entry_eq]
  generalize (lg_sl ([.ref (a 0), .int x1]) ++ List.replicate (5 - (lg_sl ([.ref (a 0), .int x1])).length) Slot.unset).toArray = ls at hl ⊢
  exact b_main _ _ _ hP hD hS hl

set_option maxRecDepth 100000 in
set_option maxHeartbeats 4000000 in
theorem m_X7_most  {x1 : Int32} {u u' : Mem} {r : Int32}  (hF : F_X7_most  u x1 = some (r, u')) : MR l D cc a yX7_most cX7_most 2 (some .int) 8 181 [.ref (a 0), .int x1] u (some (.int r)) u' := by
  refine MM.ofW (by decide) (fun p e s m below meth c S hr hlocks hK hEs hP hD hS => ?_)
  have S : CallFix p m c cX7_most 2 s _ gtbl RX7 := S
  obtain ⟨hx, hb, hml, hown, hts⟩ := id S
  have b25 : ∀  (u : Mem) (y0 : Int32) , F_X7_most_25  u y0 = some (r, u') → BW p l e s m below meth c 8 181 [.ref (a 0), .int x1] D (AM a) (some (.int r)) (wlM cc a u') 2 (wlM cc a u) 25 [] [.int y0] := by
    intro  u y0 hF H locs ls hP hD hS hl
    unfold F_X7_most_25 at hF
    obtain ⟨rfl, rfl⟩ := sp_eq hF
    exact retI S hr hlocks hP hD hS dX7_most_25
  unfold F_X7_most at hF
  have b_main : BW p l e s m below meth c 8 181 [.ref (a 0), .int x1] D (AM a) (some (.int r)) (wlM cc a u') 2 (wlM cc a u) 0 [(0, .ref (a 0)), (1, .int x1)] [] := by
    intro H locs ls hP hD hS hl
    refine lv_aload_n hx hb dX7_most_0 rfl (lv_at hl 0 rfl) ?_
    refine lv_iload_n hx hb dX7_most_1 rfl (lv_at hl 1 rfl) ?_
    obtain ⟨r2, u1, e3, hF⟩ := bdI_some hF
    refine MM.callVi (m_X7_isSet e3) k_X7_156 S emOK hEs hK ⟨by decide, by decide⟩ (va_recv hK hP rfl c_MO) rfl rfl hl.1 (Nat.le_of_ble_eq_true rfl) dX7_most_2 ⟨Nat.le_refl _, Nat.le_refl _⟩ hP hD hS (fun H locs hP hD hS => ?_)
    refine lv_if_eq (tgt := 19) hx hb dX7_most_5 (by decide) (fun c4 => ?_) (fun c4 => ?_)
    · have hF := ite_t hF c4
      refine lv_aload_n hx hb dX7_most_19 rfl (lv_at hl 0 rfl) ?_
      refine lv_ldc hx hb hown (hts _ q966) dX7_most_20 ?_
      obtain ⟨r6, u5, e7, hF⟩ := bdI_some hF
      refine MM.callVi (m_X7_finds e7) k_X7_94 S emOK hEs hK ⟨by decide, by decide⟩ (va_recv hK hP rfl c_MO) rfl rfl hl.1 (Nat.le_of_ble_eq_true rfl) dX7_most_22 ⟨Nat.le_refl _, Nat.le_refl _⟩ hP hD hS (fun H locs hP hD hS => ?_)
      exact b25 _ _  hF H locs ls hP hD hS (lv_sub hl [] rfl)
    · have hF := ite_f hF c4
      refine lv_aload_n hx hb dX7_most_8 rfl (lv_at hl 0 rfl) ?_
      refine lv_iload_n hx hb dX7_most_9 rfl (lv_at hl 1 rfl) ?_
      obtain ⟨r9, u8, e10, hF⟩ := bdI_some hF
      refine MM.callVi (m_X7_bestOf e10) k_X7_165 S emOK hEs hK ⟨by decide, by decide⟩ (va_recv hK hP rfl c_MO) rfl rfl hl.1 (Nat.le_of_ble_eq_true rfl) dX7_most_10 ⟨Nat.le_refl _, Nat.le_refl _⟩ hP hD hS (fun H locs hP hD hS => ?_)
      obtain ⟨r12, u11, e13, hF⟩ := bdI_some hF
      refine MM.callSi (m_X7_ones e13) k_X7_162 S emOK hEs hK ⟨by decide, by decide⟩ rfl rfl hl.1 (Nat.le_of_ble_eq_true rfl) dX7_most_13 ⟨Nat.le_refl _, Nat.le_refl _⟩ hP hD hS (fun H locs hP hD hS => ?_)
      refine lv_goto (tgt := 25) hx hb dX7_most_16 (by decide) ?_
      exact b25 _ _  hF H locs ls hP hD hS (lv_sub hl [] rfl)
  have hl := lv_entry ([.ref (a 0), .int x1]) (n := 2) (Nat.le_of_ble_eq_true rfl)
  rw [lg_entry_eq]
  generalize (lg_sl ([.ref (a 0), .int x1]) ++ List.replicate (2 - (lg_sl ([.ref (a 0), .int x1])).length) Slot.unset).toArray = ls at hl ⊢
  exact b_main _ _ _ hP hD hS hl

set_option maxRecDepth 100000 in
set_option maxHeartbeats 4000000 in
theorem m_X7_best  {x1 : Int32} {u u' : Mem} {r : Int32}  (hF : F_X7_best  u x1 = some (r, u')) : MR l D cc a yX7_best cX7_best 2 (some .int) 8 181 [.ref (a 0), .int x1] u (some (.int r)) u' := by
  refine MM.ofW (by decide) (fun p e s m below meth c S hr hlocks hK hEs hP hD hS => ?_)
  have S : CallFix p m c cX7_best 2 s _ gtbl RX7 := S
  obtain ⟨hx, hb, hml, hown, hts⟩ := id S
  have b22 : ∀  (u : Mem) (y0 : Int32) , F_X7_best_22  u y0 = some (r, u') → BW p l e s m below meth c 8 181 [.ref (a 0), .int x1] D (AM a) (some (.int r)) (wlM cc a u') 2 (wlM cc a u) 22 [] [.int y0] := by
    intro  u y0 hF H locs ls hP hD hS hl
    unfold F_X7_best_22 at hF
    obtain ⟨rfl, rfl⟩ := sp_eq hF
    exact retI S hr hlocks hP hD hS dX7_best_22
  unfold F_X7_best at hF
  have b_main : BW p l e s m below meth c 8 181 [.ref (a 0), .int x1] D (AM a) (some (.int r)) (wlM cc a u') 2 (wlM cc a u) 0 [(0, .ref (a 0)), (1, .int x1)] [] := by
    intro H locs ls hP hD hS hl
    refine lv_aload_n hx hb dX7_best_0 rfl (lv_at hl 0 rfl) ?_
    refine lv_iload_n hx hb dX7_best_1 rfl (lv_at hl 1 rfl) ?_
    obtain ⟨r2, u1, e3, hF⟩ := bdI_some hF
    refine MM.callVi (m_X7_isSet e3) k_X7_156 S emOK hEs hK ⟨by decide, by decide⟩ (va_recv hK hP rfl c_MO) rfl rfl hl.1 (Nat.le_of_ble_eq_true rfl) dX7_best_2 ⟨Nat.le_refl _, Nat.le_refl _⟩ hP hD hS (fun H locs hP hD hS => ?_)
    refine lv_if_eq (tgt := 16) hx hb dX7_best_5 (by decide) (fun c4 => ?_) (fun c4 => ?_)
    · have hF := ite_t hF c4
      refine lv_aload_n hx hb dX7_best_16 rfl (lv_at hl 0 rfl) ?_
      refine lv_ldc hx hb hown (hts _ q966) dX7_best_17 ?_
      obtain ⟨r6, u5, e7, hF⟩ := bdI_some hF
      refine MM.callVi (m_X7_finds e7) k_X7_94 S emOK hEs hK ⟨by decide, by decide⟩ (va_recv hK hP rfl c_MO) rfl rfl hl.1 (Nat.le_of_ble_eq_true rfl) dX7_best_19 ⟨Nat.le_refl _, Nat.le_refl _⟩ hP hD hS (fun H locs hP hD hS => ?_)
      exact b22 _ _  hF H locs ls hP hD hS (lv_sub hl [] rfl)
    · have hF := ite_f hF c4
      refine lv_aload_n hx hb dX7_best_8 rfl (lv_at hl 0 rfl) ?_
      refine lv_iload_n hx hb dX7_best_9 rfl (lv_at hl 1 rfl) ?_
      obtain ⟨r9, u8, e10, hF⟩ := bdI_some hF
      refine MM.callVi (m_X7_bestOf e10) k_X7_165 S emOK hEs hK ⟨by decide, by decide⟩ (va_recv hK hP rfl c_MO) rfl rfl hl.1 (Nat.le_of_ble_eq_true rfl) dX7_best_10 ⟨Nat.le_refl _, Nat.le_refl _⟩ hP hD hS (fun H locs hP hD hS => ?_)
      refine lv_goto (tgt := 22) hx hb dX7_best_13 (by decide) ?_
      exact b22 _ _  hF H locs ls hP hD hS (lv_sub hl [] rfl)
  have hl := lv_entry ([.ref (a 0), .int x1]) (n := 2) (Nat.le_of_ble_eq_true rfl)
  rw [lg_entry_eq]
  generalize (lg_sl ([.ref (a 0), .int x1]) ++ List.replicate (2 - (lg_sl ([.ref (a 0), .int x1])).length) Slot.unset).toArray = ls at hl ⊢
  exact b_main _ _ _ hP hD hS hl

set_option maxRecDepth 100000 in
set_option maxHeartbeats 4000000 in
theorem m_X7_fewestOf  {x1 : Int32} {u u' : Mem} {r : Int32}  (hF : F_X7_fewestOf  u x1 = some (r, u')) : MR l D cc a yX7_fewestOf cX7_fewestOf 9 (some .int) 7 157 [.ref (a 0), .int x1] u (some (.int r)) u' := by
  refine MM.ofW (by decide) (fun p e s m below meth c S hr hlocks hK hEs hP hD hS => ?_)
  have S : CallFix p m c cX7_fewestOf 9 s _ gtbl RX7 := S
  obtain ⟨hx, hb, hml, hown, hts⟩ := id S
  have b135 : ∀ (k13 : Mem → Int32 → Int32 → Option (Int32 × Mem)) (hk13 : ∀ (u : Mem) (v1 : Int32) (v2 : Int32) , k13 u v1 v2 = some (r, u') → BW p l e s m below meth c 7 157 [.ref (a 0), .int x1] D (AM a) (some (.int r)) (wlM cc a u') 9 (wlM cc a u) 13 [(0, .ref (a 0)), (1, .int v1), (2, .int v2)] []) (u : Mem) (v1 : Int32) (v2 : Int32) , F_X7_fewestOf_135 k13 u v1 v2 = some (r, u') → BW p l e s m below meth c 7 157 [.ref (a 0), .int x1] D (AM a) (some (.int r)) (wlM cc a u') 9 (wlM cc a u) 135 [(0, .ref (a 0)), (1, .int v1), (2, .int v2)] [] := by
    intro k13 hk13 u v1 v2 hF H locs ls hP hD hS hl
    unfold F_X7_fewestOf_135 at hF
    refine lv_inc1 (k := 2) (lv' := [(2, .int _), (0, .ref _), (1, .int _)]) hx hb dX7_fewestOf_135 hl rfl (by decide) rfl (fun ls hl => ?_)
    refine lv_goto (tgt := 13) hx hb dX7_fewestOf_138 (by decide) ?_
    exact hk13 _ _ _  hF H locs ls hP hD hS (lv_sub hl [1, 2, 0] rfl)
  have b113 : ∀ (k49 : Mem → Int32 → Int32 → Int32 → Int32 → Int32 → Int32 → Int32 → Option (Int32 × Mem)) (hk49 : ∀ (u : Mem) (v1 : Int32) (v2 : Int32) (v3 : Int32) (v4 : Int32) (v5 : Int32) (v6 : Int32) (v7 : Int32) , k49 u v1 v2 v3 v4 v5 v6 v7 = some (r, u') → BW p l e s m below meth c 7 157 [.ref (a 0), .int x1] D (AM a) (some (.int r)) (wlM cc a u') 9 (wlM cc a u) 49 [(0, .ref (a 0)), (1, .int v1), (2, .int v2), (3, .int v3), (4, .int v4), (5, .int v5), (6, .int v6), (7, .int v7)] []) (u : Mem) (v1 : Int32) (v2 : Int32) (v3 : Int32) (v4 : Int32) (v5 : Int32) (v6 : Int32) (y0 : Int32) , F_X7_fewestOf_113 k49 u v1 v2 v3 v4 v5 v6 y0 = some (r, u') → BW p l e s m below meth c 7 157 [.ref (a 0), .int x1] D (AM a) (some (.int r)) (wlM cc a u') 9 (wlM cc a u) 113 [(0, .ref (a 0)), (1, .int v1), (2, .int v2), (3, .int v3), (4, .int v4), (5, .int v5), (6, .int v6)] [.int y0] := by
    intro k49 hk49 u v1 v2 v3 v4 v5 v6 y0 hF H locs ls hP hD hS hl
    unfold F_X7_fewestOf_113 at hF
    refine lv_istore (lv' := [(7, .int _), (0, .ref _), (1, .int _), (2, .int _), (3, .int _), (4, .int _), (5, .int _), (6, .int _)]) hx hb dX7_fewestOf_113 hl (by decide) rfl (fun ls hl => ?_)
    refine lv_iload hx hb dX7_fewestOf_115 (lv_at hl 7 rfl) ?_
    refine lv_iconst (v := 1) hx hb dX7_fewestOf_117 (by decide) ?_
    refine lv_isub hx hb dX7_fewestOf_118 ?_
    refine lv_iload hx hb dX7_fewestOf_119 (lv_at hl 5 rfl) ?_
    refine lv_iand hx hb dX7_fewestOf_121 ?_
    refine lv_istore (lv' := [(6, .int _), (7, .int _), (0, .ref _), (1, .int _), (2, .int _), (3, .int _), (4, .int _), (5, .int _)]) hx hb dX7_fewestOf_122 hl (by decide) rfl (fun ls hl => ?_)
    refine lv_goto (tgt := 49) hx hb dX7_fewestOf_124 (by decide) ?_
    exact hk49 _ _ _ _ _ _ _ _  hF H locs ls hP hD hS (lv_sub hl [2, 3, 4, 5, 6, 7, 0, 1] rfl)
  have b101 : ∀ (k49 : Mem → Int32 → Int32 → Int32 → Int32 → Int32 → Int32 → Int32 → Option (Int32 × Mem)) (hk49 : ∀ (u : Mem) (v1 : Int32) (v2 : Int32) (v3 : Int32) (v4 : Int32) (v5 : Int32) (v6 : Int32) (v7 : Int32) , k49 u v1 v2 v3 v4 v5 v6 v7 = some (r, u') → BW p l e s m below meth c 7 157 [.ref (a 0), .int x1] D (AM a) (some (.int r)) (wlM cc a u') 9 (wlM cc a u) 49 [(0, .ref (a 0)), (1, .int v1), (2, .int v2), (3, .int v3), (4, .int v4), (5, .int v5), (6, .int v6), (7, .int v7)] []) (u : Mem) (v1 : Int32) (v2 : Int32) (v3 : Int32) (v4 : Int32) (v6 : Int32) (y0 : Int32) , F_X7_fewestOf_101 k49 u v1 v2 v3 v4 v6 y0 = some (r, u') → BW p l e s m below meth c 7 157 [.ref (a 0), .int x1] D (AM a) (some (.int r)) (wlM cc a u') 9 (wlM cc a u) 101 [(0, .ref (a 0)), (1, .int v1), (2, .int v2), (3, .int v3), (4, .int v4), (6, .int v6)] [.int y0] := by
    intro k49 hk49 u v1 v2 v3 v4 v6 y0 hF H locs ls hP hD hS hl
    unfold F_X7_fewestOf_101 at hF
    refine lv_istore (lv' := [(5, .int _), (0, .ref _), (1, .int _), (2, .int _), (3, .int _), (4, .int _), (6, .int _)]) hx hb dX7_fewestOf_101 hl (by decide) rfl (fun ls hl => ?_)
    refine lv_iload hx hb dX7_fewestOf_103 (lv_at hl 6 rfl) ?_
    refine lv_if_eq (tgt := 112) hx hb dX7_fewestOf_105 (by decide) (fun c1 => ?_) (fun c1 => ?_)
    · have hF := ite_t hF c1
      refine lv_iconst (v := 0) hx hb dX7_fewestOf_112 (by decide) ?_
      exact b113 _ hk49 _ _ _ _ _ _ _ _  hF H locs ls hP hD hS (lv_sub hl [1, 2, 3, 4, 5, 0, 6] rfl)
    · have hF := ite_f hF c1
      refine lv_iconst (v := 1) hx hb dX7_fewestOf_108 (by decide) ?_
      refine lv_goto (tgt := 113) hx hb dX7_fewestOf_109 (by decide) ?_
      exact b113 _ hk49 _ _ _ _ _ _ _ _  hF H locs ls hP hD hS (lv_sub hl [1, 2, 3, 4, 5, 0, 6] rfl)
  have b85 : ∀ (k49 : Mem → Int32 → Int32 → Int32 → Int32 → Int32 → Int32 → Int32 → Option (Int32 × Mem)) (hk49 : ∀ (u : Mem) (v1 : Int32) (v2 : Int32) (v3 : Int32) (v4 : Int32) (v5 : Int32) (v6 : Int32) (v7 : Int32) , k49 u v1 v2 v3 v4 v5 v6 v7 = some (r, u') → BW p l e s m below meth c 7 157 [.ref (a 0), .int x1] D (AM a) (some (.int r)) (wlM cc a u') 9 (wlM cc a u) 49 [(0, .ref (a 0)), (1, .int v1), (2, .int v2), (3, .int v3), (4, .int v4), (5, .int v5), (6, .int v6), (7, .int v7)] []) (u : Mem) (v1 : Int32) (v2 : Int32) (v3 : Int32) (v4 : Int32) (v5 : Int32) (v6 : Int32) (y0 : Int32) , F_X7_fewestOf_85 k49 u v1 v2 v3 v4 v5 v6 y0 = some (r, u') → BW p l e s m below meth c 7 157 [.ref (a 0), .int x1] D (AM a) (some (.int r)) (wlM cc a u') 9 (wlM cc a u) 85 [(0, .ref (a 0)), (1, .int v1), (2, .int v2), (3, .int v3), (4, .int v4), (5, .int v5), (6, .int v6)] [.int y0] := by
    intro k49 hk49 u v1 v2 v3 v4 v5 v6 y0 hF H locs ls hP hD hS hl
    unfold F_X7_fewestOf_85 at hF
    refine lv_istore (lv' := [(8, .int _), (0, .ref _), (1, .int _), (2, .int _), (3, .int _), (4, .int _), (5, .int _), (6, .int _)]) hx hb dX7_fewestOf_85 hl (by decide) rfl (fun ls hl => ?_)
    refine lv_iload hx hb dX7_fewestOf_87 (lv_at hl 0 rfl) ?_
    refine lv_iload hx hb dX7_fewestOf_89 (lv_at hl 6 rfl) ?_
    refine lv_icmp_ge (tgt := 99) hx hb dX7_fewestOf_91 (by decide) (fun c2 => ?_) (fun c2 => ?_)
    · have hF := ite_t hF c2
      refine lv_iload hx hb dX7_fewestOf_99 (lv_at hl 6 rfl) ?_
      exact b101 _ hk49 _ _ _ _ _ _ _  hF H locs ls hP hD hS (lv_sub hl [1, 2, 3, 4, 5, 7] rfl)
    · have hF := ite_f hF c2
      refine lv_iload hx hb dX7_fewestOf_94 (lv_at hl 0 rfl) ?_
      refine lv_goto (tgt := 101) hx hb dX7_fewestOf_96 (by decide) ?_
      exact b101 _ hk49 _ _ _ _ _ _ _  hF H locs ls hP hD hS (lv_sub hl [1, 2, 3, 4, 5, 7] rfl)
  have b49 : ∀ (k13 : Mem → Int32 → Int32 → Option (Int32 × Mem)) (hk13 : ∀ (u : Mem) (v1 : Int32) (v2 : Int32) , k13 u v1 v2 = some (r, u') → BW p l e s m below meth c 7 157 [.ref (a 0), .int x1] D (AM a) (some (.int r)) (wlM cc a u') 9 (wlM cc a u) 13 [(0, .ref (a 0)), (1, .int v1), (2, .int v2)] []), ∀ (n : Nat) (u : Mem) (v1 : Int32) (v2 : Int32) (v3 : Int32) (v4 : Int32) (v5 : Int32) (v6 : Int32) (v7 : Int32) , F_X7_fewestOf_49 k13 n u v1 v2 v3 v4 v5 v6 v7 = some (r, u') → BW p l e s m below meth c 7 157 [.ref (a 0), .int x1] D (AM a) (some (.int r)) (wlM cc a u') 9 (wlM cc a u) 49 [(0, .ref (a 0)), (1, .int v1), (2, .int v2), (3, .int v3), (4, .int v4), (5, .int v5), (6, .int v6), (7, .int v7)] [] := by
    intro k13 hk13
    intro n
    induction n with
    | zero => intro u v1 v2 v3 v4 v5 v6 v7 hF; cases hF
    | succ n ih =>
      intro u v1 v2 v3 v4 v5 v6 v7 hF H locs ls hP hD hS hl
      unfold F_X7_fewestOf_49 at hF
      refine lv_iload hx hb dX7_fewestOf_49 (lv_at hl 7 rfl) ?_
      refine lv_if_eq (tgt := 127) hx hb dX7_fewestOf_51 (by decide) (fun c3 => ?_) (fun c3 => ?_)
      · have hF := ite_t hF c3
        refine lv_aload_n hx hb dX7_fewestOf_127 rfl (lv_at hl 0 rfl) ?_
        refine va_get_w S hK hP _ c_MO rfl igX7 6 (by decide) q885 rfl rfl dX7_fewestOf_128 ?_
        refine lv_iload_n hx hb dX7_fewestOf_131 rfl (lv_at hl 2 rfl) ?_
        refine lv_iload hx hb dX7_fewestOf_132 (lv_at hl 5 rfl) ?_
        obtain ⟨hin4, hF⟩ := gd_some hF
        refine mIast S hK hP hD hS ⟨rfl, by decide⟩ rfl hin4 dX7_fewestOf_134 (fun H locs hP hD hS => ?_)
        exact b135 _ hk13 _ _ _  hF H locs ls hP hD hS (lv_sub hl [0, 1, 2] rfl)
      · have hF := ite_f hF c3
        refine lv_aload_n hx hb dX7_fewestOf_54 rfl (lv_at hl 0 rfl) ?_
        refine va_get_w S hK hP _ c_MO rfl igX7 5 (by decide) q884 rfl rfl dX7_fewestOf_55 ?_
        refine lv_iload hx hb dX7_fewestOf_58 (lv_at hl 6 rfl) ?_
        refine lv_iload_n hx hb dX7_fewestOf_60 rfl (lv_at hl 3 rfl) ?_
        refine lv_ior hx hb dX7_fewestOf_61 ?_
        obtain ⟨hin5, hF⟩ := gd_some hF
        refine mZald S hK hP ⟨rfl, by decide⟩ rfl hin5 dX7_fewestOf_62 ?_
        refine lv_if_eq (tgt := 83) hx hb dX7_fewestOf_63 (by decide) (fun c6 => ?_) (fun c6 => ?_)
        · have hF := ite_t hF c6
          refine lv_bipush (v := 13) hx hb dX7_fewestOf_83 (by decide) ?_
          exact b85 _ ih _ _ _ _ _ _ _ _  hF H locs ls hP hD hS (lv_sub hl [0, 1, 2, 3, 4, 5, 6] rfl)
        · have hF := ite_f hF c6
          refine lv_iconst (v := 1) hx hb dX7_fewestOf_66 (by decide) ?_
          refine lv_aload_n hx hb dX7_fewestOf_67 rfl (lv_at hl 0 rfl) ?_
          refine va_get_w S hK hP _ c_MO rfl igX7 6 (by decide) q885 rfl rfl dX7_fewestOf_68 ?_
          refine lv_iload hx hb dX7_fewestOf_71 (lv_at hl 4 rfl) ?_
          refine lv_iload hx hb dX7_fewestOf_73 (lv_at hl 6 rfl) ?_
          refine lv_iconst (v := -1) hx hb dX7_fewestOf_75 (by decide) ?_
          refine lv_ixor hx hb dX7_fewestOf_76 ?_
          refine lv_iand hx hb dX7_fewestOf_77 ?_
          obtain ⟨hin7, hF⟩ := gd_some hF
          refine mIald S hK hP ⟨rfl, by decide⟩ rfl hin7 dX7_fewestOf_78 ?_
          refine lv_iadd hx hb dX7_fewestOf_79 ?_
          refine lv_goto (tgt := 85) hx hb dX7_fewestOf_80 (by decide) ?_
          exact b85 _ ih _ _ _ _ _ _ _ _  hF H locs ls hP hD hS (lv_sub hl [0, 1, 2, 3, 4, 5, 6] rfl)
  have b13 : ∀ (n : Nat) (u : Mem) (v1 : Int32) (v2 : Int32) , F_X7_fewestOf_13  n u v1 v2 = some (r, u') → BW p l e s m below meth c 7 157 [.ref (a 0), .int x1] D (AM a) (some (.int r)) (wlM cc a u') 9 (wlM cc a u) 13 [(0, .ref (a 0)), (1, .int v1), (2, .int v2)] [] := by
    intro n
    induction n with
    | zero => intro u v1 v2 hF; cases hF
    | succ n ih =>
      intro u v1 v2 hF H locs ls hP hD hS hl
      unfold F_X7_fewestOf_13 at hF
      refine lv_iload_n hx hb dX7_fewestOf_13 rfl (lv_at hl 2 rfl) ?_
      refine lv_iload_n hx hb dX7_fewestOf_14 rfl (lv_at hl 1 rfl) ?_
      refine lv_icmp_gt (tgt := 141) hx hb dX7_fewestOf_15 (by decide) (fun c8 => ?_) (fun c8 => ?_)
      · have hF := ite_t hF c8
        refine lv_aload_n hx hb dX7_fewestOf_141 rfl (lv_at hl 0 rfl) ?_
        refine va_get_w S hK hP _ c_MO rfl igX7 6 (by decide) q885 rfl rfl dX7_fewestOf_142 ?_
        refine lv_iload_n hx hb dX7_fewestOf_145 rfl (lv_at hl 1 rfl) ?_
        obtain ⟨hin9, hF⟩ := gd_some hF
        refine mIald S hK hP ⟨rfl, by decide⟩ rfl hin9 dX7_fewestOf_146 ?_
        obtain ⟨rfl, rfl⟩ := sp_eq hF
        exact retI S hr hlocks hP hD hS dX7_fewestOf_147
      · have hF := ite_f hF c8
        refine lv_iload_n hx hb dX7_fewestOf_18 rfl (lv_at hl 2 rfl) ?_
        refine lv_iload_n hx hb dX7_fewestOf_19 rfl (lv_at hl 1 rfl) ?_
        refine lv_iconst (v := -1) hx hb dX7_fewestOf_20 (by decide) ?_
        refine lv_ixor hx hb dX7_fewestOf_21 ?_
        refine lv_iand hx hb dX7_fewestOf_22 ?_
        refine lv_if_ne (tgt := 135) hx hb dX7_fewestOf_23 (by decide) (fun c10 => ?_) (fun c10 => ?_)
        · have hF := ite_f hF c10
          exact b135 _ ih _ _ _  hF H locs ls hP hD hS (lv_sub hl [0, 1, 2] rfl)
        · have hF := ite_t hF c10
          refine lv_iload_n hx hb dX7_fewestOf_26 rfl (lv_at hl 2 rfl) ?_
          refine lv_iload_n hx hb dX7_fewestOf_27 rfl (lv_at hl 2 rfl) ?_
          refine lv_ineg hx hb dX7_fewestOf_28 ?_
          refine lv_iand hx hb dX7_fewestOf_29 ?_
          refine lv_istore_n (lv' := [(3, .int _), (0, .ref _), (1, .int _), (2, .int _)]) hx hb dX7_fewestOf_30 rfl hl (by decide) rfl (fun ls hl => ?_)
          refine lv_iload_n hx hb dX7_fewestOf_31 rfl (lv_at hl 3 rfl) ?_
          refine lv_iload_n hx hb dX7_fewestOf_32 rfl (lv_at hl 3 rfl) ?_
          refine lv_iconst (v := 1) hx hb dX7_fewestOf_33 (by decide) ?_
          refine lv_isub hx hb dX7_fewestOf_34 ?_
          refine lv_iand hx hb dX7_fewestOf_35 ?_
          refine lv_istore (lv' := [(4, .int _), (3, .int _), (0, .ref _), (1, .int _), (2, .int _)]) hx hb dX7_fewestOf_36 hl (by decide) rfl (fun ls hl => ?_)
          refine lv_bipush (v := 13) hx hb dX7_fewestOf_38 (by decide) ?_
          refine lv_istore (lv' := [(5, .int _), (4, .int _), (3, .int _), (0, .ref _), (1, .int _), (2, .int _)]) hx hb dX7_fewestOf_40 hl (by decide) rfl (fun ls hl => ?_)
          refine lv_iload hx hb dX7_fewestOf_42 (lv_at hl 1 rfl) ?_
          refine lv_istore (lv' := [(6, .int _), (5, .int _), (4, .int _), (3, .int _), (0, .ref _), (1, .int _), (2, .int _)]) hx hb dX7_fewestOf_44 hl (by decide) rfl (fun ls hl => ?_)
          refine lv_iconst (v := 1) hx hb dX7_fewestOf_46 (by decide) ?_
          refine lv_istore (lv' := [(7, .int _), (6, .int _), (5, .int _), (4, .int _), (3, .int _), (0, .ref _), (1, .int _), (2, .int _)]) hx hb dX7_fewestOf_47 hl (by decide) rfl (fun ls hl => ?_)
          exact b49 _ ih _ _ _ _ _ _ _ _ _  hF H locs ls hP hD hS (lv_sub hl [5, 6, 7, 4, 3, 2, 1, 0] rfl)
  unfold F_X7_fewestOf at hF
  have b_main : BW p l e s m below meth c 7 157 [.ref (a 0), .int x1] D (AM a) (some (.int r)) (wlM cc a u') 9 (wlM cc a u) 0 [(0, .ref (a 0)), (1, .int x1)] [] := by
    intro H locs ls hP hD hS hl
    refine lv_aload_n hx hb dX7_fewestOf_0 rfl (lv_at hl 0 rfl) ?_
    obtain ⟨u11, e13, hF⟩ := bdV_some hF
    refine MM.callVv (m_X7_findRings e13) k_X7_159 S emOK hEs hK ⟨by decide, by decide⟩ (va_recv hK hP rfl c_MO) rfl rfl hl.1 (Nat.le_of_ble_eq_true rfl) dX7_fewestOf_1 ⟨Nat.le_refl _, Nat.le_refl _⟩ hP hD hS (fun H locs hP hD hS => ?_)
    refine lv_aload_n hx hb dX7_fewestOf_4 rfl (lv_at hl 0 rfl) ?_
    refine va_get_w S hK hP _ c_MO rfl igX7 6 (by decide) q885 rfl rfl dX7_fewestOf_5 ?_
    refine lv_iconst (v := 0) hx hb dX7_fewestOf_8 (by decide) ?_
    refine lv_iconst (v := 0) hx hb dX7_fewestOf_9 (by decide) ?_
    obtain ⟨hin14, hF⟩ := gd_some hF
    refine mIast S hK hP hD hS ⟨rfl, by decide⟩ rfl hin14 dX7_fewestOf_10 (fun H locs hP hD hS => ?_)
    refine lv_iconst (v := 1) hx hb dX7_fewestOf_11 (by decide) ?_
    refine lv_istore_n (lv' := [(2, .int _), (0, .ref _), (1, .int _)]) hx hb dX7_fewestOf_12 rfl hl (by decide) rfl (fun ls hl => ?_)
    exact b13 _ _ _ _  hF H locs ls hP hD hS (lv_sub hl [1, 2, 0] rfl)
  have hl := lv_entry ([.ref (a 0), .int x1]) (n := 9) (Nat.le_of_ble_eq_true rfl)
  rw [lg_entry_eq]
  generalize (lg_sl ([.ref (a 0), .int x1]) ++ List.replicate (9 - (lg_sl ([.ref (a 0), .int x1])).length) Slot.unset).toArray = ls at hl ⊢
  exact b_main _ _ _ hP hD hS hl

set_option maxRecDepth 100000 in
set_option maxHeartbeats 4000000 in
theorem m_X7_fewest  {x1 : Int32} {u u' : Mem} {r : Int32}  (hF : F_X7_fewest  u x1 = some (r, u')) : MR l D cc a yX7_fewest cX7_fewest 2 (some .int) 8 185 [.ref (a 0), .int x1] u (some (.int r)) u' := by
  refine MM.ofW (by decide) (fun p e s m below meth c S hr hlocks hK hEs hP hD hS => ?_)
  have S : CallFix p m c cX7_fewest 2 s _ gtbl RX7 := S
  obtain ⟨hx, hb, hml, hown, hts⟩ := id S
  have b22 : ∀  (u : Mem) (y0 : Int32) , F_X7_fewest_22  u y0 = some (r, u') → BW p l e s m below meth c 8 185 [.ref (a 0), .int x1] D (AM a) (some (.int r)) (wlM cc a u') 2 (wlM cc a u) 22 [] [.int y0] := by
    intro  u y0 hF H locs ls hP hD hS hl
    unfold F_X7_fewest_22 at hF
    obtain ⟨rfl, rfl⟩ := sp_eq hF
    exact retI S hr hlocks hP hD hS dX7_fewest_22
  unfold F_X7_fewest at hF
  have b_main : BW p l e s m below meth c 8 185 [.ref (a 0), .int x1] D (AM a) (some (.int r)) (wlM cc a u') 2 (wlM cc a u) 0 [(0, .ref (a 0)), (1, .int x1)] [] := by
    intro H locs ls hP hD hS hl
    refine lv_aload_n hx hb dX7_fewest_0 rfl (lv_at hl 0 rfl) ?_
    refine lv_iload_n hx hb dX7_fewest_1 rfl (lv_at hl 1 rfl) ?_
    obtain ⟨r2, u1, e3, hF⟩ := bdI_some hF
    refine MM.callVi (m_X7_isSet e3) k_X7_156 S emOK hEs hK ⟨by decide, by decide⟩ (va_recv hK hP rfl c_MO) rfl rfl hl.1 (Nat.le_of_ble_eq_true rfl) dX7_fewest_2 ⟨Nat.le_refl _, Nat.le_refl _⟩ hP hD hS (fun H locs hP hD hS => ?_)
    refine lv_if_eq (tgt := 16) hx hb dX7_fewest_5 (by decide) (fun c4 => ?_) (fun c4 => ?_)
    · have hF := ite_t hF c4
      refine lv_aload_n hx hb dX7_fewest_16 rfl (lv_at hl 0 rfl) ?_
      refine lv_ldc hx hb hown (hts _ q966) dX7_fewest_17 ?_
      obtain ⟨r6, u5, e7, hF⟩ := bdI_some hF
      refine MM.callVi (m_X7_finds e7) k_X7_94 S emOK hEs hK ⟨by decide, by decide⟩ (va_recv hK hP rfl c_MO) rfl rfl hl.1 (Nat.le_of_ble_eq_true rfl) dX7_fewest_19 ⟨Nat.le_refl _, Nat.le_refl _⟩ hP hD hS (fun H locs hP hD hS => ?_)
      exact b22 _ _  hF H locs ls hP hD hS (lv_sub hl [] rfl)
    · have hF := ite_f hF c4
      refine lv_aload_n hx hb dX7_fewest_8 rfl (lv_at hl 0 rfl) ?_
      refine lv_iload_n hx hb dX7_fewest_9 rfl (lv_at hl 1 rfl) ?_
      obtain ⟨r9, u8, e10, hF⟩ := bdI_some hF
      refine MM.callVi (m_X7_fewestOf e10) k_X7_168 S emOK hEs hK ⟨by decide, by decide⟩ (va_recv hK hP rfl c_MO) rfl rfl hl.1 (Nat.le_of_ble_eq_true rfl) dX7_fewest_10 ⟨Nat.le_refl _, Nat.le_refl _⟩ hP hD hS (fun H locs hP hD hS => ?_)
      refine lv_goto (tgt := 22) hx hb dX7_fewest_13 (by decide) ?_
      exact b22 _ _  hF H locs ls hP hD hS (lv_sub hl [] rfl)
  have hl := lv_entry ([.ref (a 0), .int x1]) (n := 2) (Nat.le_of_ble_eq_true rfl)
  rw [lg_entry_eq]
  generalize (lg_sl ([.ref (a 0), .int x1]) ++ List.replicate (2 - (lg_sl ([.ref (a 0), .int x1])).length) Slot.unset).toArray = ls at hl ⊢
  exact b_main _ _ _ hP hD hS hl

set_option maxRecDepth 100000 in
set_option maxHeartbeats 4000000 in
theorem m_X7_alone  {x1 : Int32} {u u' : Mem} {r : Int32}  (hF : F_X7_alone  u x1 = some (r, u')) : MR l D cc a yX7_alone cX7_alone 6 (some .int) 6 134 [.ref (a 0), .int x1] u (some (.int r)) u' := by
  refine MM.ofW (by decide) (fun p e s m below meth c S hr hlocks hK hEs hP hD hS => ?_)
  have S : CallFix p m c cX7_alone 6 s _ gtbl RX7 := S
  obtain ⟨hx, hb, hml, hown, hts⟩ := id S
  have b110 : ∀ (k23 : Mem → Int32 → Int32 → Int32 → Option (Int32 × Mem)) (hk23 : ∀ (u : Mem) (v1 : Int32) (v2 : Int32) (v3 : Int32) , k23 u v1 v2 v3 = some (r, u') → BW p l e s m below meth c 6 134 [.ref (a 0), .int x1] D (AM a) (some (.int r)) (wlM cc a u') 6 (wlM cc a u) 23 [(0, .ref (a 0)), (1, .int v1), (2, .int v2), (3, .int v3)] []) (u : Mem) (v1 : Int32) (v3 : Int32) (y0 : Int32) (y1 : Int32) , F_X7_alone_110 k23 u v1 v3 y0 y1 = some (r, u') → BW p l e s m below meth c 6 134 [.ref (a 0), .int x1] D (AM a) (some (.int r)) (wlM cc a u') 6 (wlM cc a u) 110 [(0, .ref (a 0)), (1, .int v1), (3, .int v3)] [.int y1, .int y0] := by
    intro k23 hk23 u v1 v3 y0 y1 hF H locs ls hP hD hS hl
    unfold F_X7_alone_110 at hF
    refine lv_ior hx hb dX7_alone_110 ?_
    refine lv_istore_n (lv' := [(2, .int _), (0, .ref _), (1, .int _), (3, .int _)]) hx hb dX7_alone_111 rfl hl (by decide) rfl (fun ls hl => ?_)
    refine lv_inc1 (k := 3) (lv' := [(3, .int _), (2, .int _), (0, .ref _), (1, .int _)]) hx hb dX7_alone_112 hl rfl (by decide) rfl (fun ls hl => ?_)
    refine lv_goto (tgt := 23) hx hb dX7_alone_115 (by decide) ?_
    exact hk23 _ _ _ _  hF H locs ls hP hD hS (lv_sub hl [2, 3, 1, 0] rfl)
  have b89 : ∀ (k43 : Mem → Int32 → Int32 → Int32 → Int32 → Int32 → Option (Int32 × Mem)) (hk43 : ∀ (u : Mem) (v1 : Int32) (v2 : Int32) (v3 : Int32) (v4 : Int32) (v5 : Int32) , k43 u v1 v2 v3 v4 v5 = some (r, u') → BW p l e s m below meth c 6 134 [.ref (a 0), .int x1] D (AM a) (some (.int r)) (wlM cc a u') 6 (wlM cc a u) 43 [(0, .ref (a 0)), (1, .int v1), (2, .int v2), (3, .int v3), (4, .int v4), (5, .int v5)] []) (u : Mem) (v1 : Int32) (v2 : Int32) (v3 : Int32) (v5 : Int32) (y0 : Int32) , F_X7_alone_89 k43 u v1 v2 v3 v5 y0 = some (r, u') → BW p l e s m below meth c 6 134 [.ref (a 0), .int x1] D (AM a) (some (.int r)) (wlM cc a u') 6 (wlM cc a u) 89 [(0, .ref (a 0)), (1, .int v1), (2, .int v2), (3, .int v3), (5, .int v5)] [.int y0] := by
    intro k43 hk43 u v1 v2 v3 v5 y0 hF H locs ls hP hD hS hl
    unfold F_X7_alone_89 at hF
    refine lv_istore (lv' := [(4, .int _), (0, .ref _), (1, .int _), (2, .int _), (3, .int _), (5, .int _)]) hx hb dX7_alone_89 hl (by decide) rfl (fun ls hl => ?_)
    refine lv_inc1 (k := 5) (lv' := [(5, .int _), (4, .int _), (0, .ref _), (1, .int _), (2, .int _), (3, .int _)]) hx hb dX7_alone_91 hl rfl (by decide) rfl (fun ls hl => ?_)
    refine lv_goto (tgt := 43) hx hb dX7_alone_94 (by decide) ?_
    exact hk43 _ _ _ _ _ _  hF H locs ls hP hD hS (lv_sub hl [2, 3, 4, 5, 1, 0] rfl)
  have b84 : ∀ (k43 : Mem → Int32 → Int32 → Int32 → Int32 → Int32 → Option (Int32 × Mem)) (hk43 : ∀ (u : Mem) (v1 : Int32) (v2 : Int32) (v3 : Int32) (v4 : Int32) (v5 : Int32) , k43 u v1 v2 v3 v4 v5 = some (r, u') → BW p l e s m below meth c 6 134 [.ref (a 0), .int x1] D (AM a) (some (.int r)) (wlM cc a u') 6 (wlM cc a u) 43 [(0, .ref (a 0)), (1, .int v1), (2, .int v2), (3, .int v3), (4, .int v4), (5, .int v5)] []) (u : Mem) (v1 : Int32) (v2 : Int32) (v3 : Int32) (v5 : Int32) , F_X7_alone_84 k43 u v1 v2 v3 v5 = some (r, u') → BW p l e s m below meth c 6 134 [.ref (a 0), .int x1] D (AM a) (some (.int r)) (wlM cc a u') 6 (wlM cc a u) 84 [(0, .ref (a 0)), (1, .int v1), (2, .int v2), (3, .int v3), (5, .int v5)] [] := by
    intro k43 hk43 u v1 v2 v3 v5 hF H locs ls hP hD hS hl
    unfold F_X7_alone_84 at hF
    refine lv_iconst (v := 1) hx hb dX7_alone_84 (by decide) ?_
    refine lv_goto (tgt := 89) hx hb dX7_alone_85 (by decide) ?_
    exact b89 _ hk43 _ _ _ _ _ _  hF H locs ls hP hD hS (lv_sub hl [0, 1, 2, 3, 4] rfl)
  have b88 : ∀ (k43 : Mem → Int32 → Int32 → Int32 → Int32 → Int32 → Option (Int32 × Mem)) (hk43 : ∀ (u : Mem) (v1 : Int32) (v2 : Int32) (v3 : Int32) (v4 : Int32) (v5 : Int32) , k43 u v1 v2 v3 v4 v5 = some (r, u') → BW p l e s m below meth c 6 134 [.ref (a 0), .int x1] D (AM a) (some (.int r)) (wlM cc a u') 6 (wlM cc a u) 43 [(0, .ref (a 0)), (1, .int v1), (2, .int v2), (3, .int v3), (4, .int v4), (5, .int v5)] []) (u : Mem) (v1 : Int32) (v2 : Int32) (v3 : Int32) (v5 : Int32) , F_X7_alone_88 k43 u v1 v2 v3 v5 = some (r, u') → BW p l e s m below meth c 6 134 [.ref (a 0), .int x1] D (AM a) (some (.int r)) (wlM cc a u') 6 (wlM cc a u) 88 [(0, .ref (a 0)), (1, .int v1), (2, .int v2), (3, .int v3), (5, .int v5)] [] := by
    intro k43 hk43 u v1 v2 v3 v5 hF H locs ls hP hD hS hl
    unfold F_X7_alone_88 at hF
    refine lv_iconst (v := 0) hx hb dX7_alone_88 (by decide) ?_
    exact b89 _ hk43 _ _ _ _ _ _  hF H locs ls hP hD hS (lv_sub hl [0, 1, 2, 3, 4] rfl)
  have b43 : ∀ (k23 : Mem → Int32 → Int32 → Int32 → Option (Int32 × Mem)) (hk23 : ∀ (u : Mem) (v1 : Int32) (v2 : Int32) (v3 : Int32) , k23 u v1 v2 v3 = some (r, u') → BW p l e s m below meth c 6 134 [.ref (a 0), .int x1] D (AM a) (some (.int r)) (wlM cc a u') 6 (wlM cc a u) 23 [(0, .ref (a 0)), (1, .int v1), (2, .int v2), (3, .int v3)] []), ∀ (n : Nat) (u : Mem) (v1 : Int32) (v2 : Int32) (v3 : Int32) (v4 : Int32) (v5 : Int32) , F_X7_alone_43 k23 n u v1 v2 v3 v4 v5 = some (r, u') → BW p l e s m below meth c 6 134 [.ref (a 0), .int x1] D (AM a) (some (.int r)) (wlM cc a u') 6 (wlM cc a u) 43 [(0, .ref (a 0)), (1, .int v1), (2, .int v2), (3, .int v3), (4, .int v4), (5, .int v5)] [] := by
    intro k23 hk23
    intro n
    induction n with
    | zero => intro u v1 v2 v3 v4 v5 hF; cases hF
    | succ n ih =>
      intro u v1 v2 v3 v4 v5 hF H locs ls hP hD hS hl
      unfold F_X7_alone_43 at hF
      refine lv_iload hx hb dX7_alone_43 (lv_at hl 5 rfl) ?_
      refine lv_aload_n hx hb dX7_alone_45 rfl (lv_at hl 0 rfl) ?_
      refine va_get_w S hK hP _ c_MO rfl igX7 0 (by decide) q879 rfl rfl dX7_alone_46 ?_
      refine lv_iconst (v := 0) hx hb dX7_alone_49 (by decide) ?_
      obtain ⟨hin1, hF⟩ := gd_some hF
      refine mIald S hK hP ⟨rfl, by decide⟩ rfl hin1 dX7_alone_50 ?_
      refine lv_icmp_ge (tgt := 97) hx hb dX7_alone_51 (by decide) (fun c2 => ?_) (fun c2 => ?_)
      · have hF := ite_t hF c2
        refine lv_iload_n hx hb dX7_alone_97 rfl (lv_at hl 2 rfl) ?_
        refine lv_iload hx hb dX7_alone_98 (lv_at hl 4 rfl) ?_
        refine lv_if_eq (tgt := 109) hx hb dX7_alone_100 (by decide) (fun c3 => ?_) (fun c3 => ?_)
        · have hF := ite_t hF c3
          refine lv_iconst (v := 0) hx hb dX7_alone_109 (by decide) ?_
          exact b110 _ hk23 _ _ _ _ _  hF H locs ls hP hD hS (lv_sub hl [0, 1, 3] rfl)
        · have hF := ite_f hF c3
          refine lv_iconst (v := 1) hx hb dX7_alone_103 (by decide) ?_
          refine lv_iload_n hx hb dX7_alone_104 rfl (lv_at hl 3 rfl) ?_
          refine lv_ishl hx hb dX7_alone_105 ?_
          refine lv_goto (tgt := 110) hx hb dX7_alone_106 (by decide) ?_
          exact b110 _ hk23 _ _ _ _ _  hF H locs ls hP hD hS (lv_sub hl [0, 1, 3] rfl)
      · have hF := ite_f hF c2
        refine lv_iload hx hb dX7_alone_54 (lv_at hl 4 rfl) ?_
        refine lv_if_eq (tgt := 88) hx hb dX7_alone_56 (by decide) (fun c4 => ?_) (fun c4 => ?_)
        · have hF := ite_t hF c4
          exact b88 _ ih _ _ _ _ _  hF H locs ls hP hD hS (lv_sub hl [0, 1, 2, 3, 5] rfl)
        · have hF := ite_f hF c4
          refine lv_iload hx hb dX7_alone_59 (lv_at hl 5 rfl) ?_
          refine lv_iload_n hx hb dX7_alone_61 rfl (lv_at hl 3 rfl) ?_
          refine lv_icmp_eq (tgt := 84) hx hb dX7_alone_62 (by decide) (fun c5 => ?_) (fun c5 => ?_)
          · have hF := ite_t hF c5
            exact b84 _ ih _ _ _ _ _  hF H locs ls hP hD hS (lv_sub hl [0, 1, 2, 3, 5] rfl)
          · have hF := ite_f hF c5
            refine lv_iload_n hx hb dX7_alone_65 rfl (lv_at hl 1 rfl) ?_
            refine lv_iload hx hb dX7_alone_66 (lv_at hl 5 rfl) ?_
            obtain ⟨r7, u6, e8, hF⟩ := bdI_some hF
            refine MM.callSi (m_X7_has e8) k_X7_141 S emOK hEs hK ⟨by decide, by decide⟩ rfl rfl hl.1 (Nat.le_of_ble_eq_true rfl) dX7_alone_68 ⟨Nat.le_refl _, Nat.le_refl _⟩ hP hD hS (fun H locs hP hD hS => ?_)
            refine lv_if_eq (tgt := 84) hx hb dX7_alone_71 (by decide) (fun c9 => ?_) (fun c9 => ?_)
            · have hF := ite_t hF c9
              exact b84 _ ih _ _ _ _ _  hF H locs ls hP hD hS (lv_sub hl [0, 1, 2, 3, 5] rfl)
            · have hF := ite_f hF c9
              refine lv_aload_n hx hb dX7_alone_74 rfl (lv_at hl 0 rfl) ?_
              refine lv_iload_n hx hb dX7_alone_75 rfl (lv_at hl 3 rfl) ?_
              refine lv_iload hx hb dX7_alone_76 (lv_at hl 5 rfl) ?_
              obtain ⟨r11, u10, e12, hF⟩ := bdI_some hF
              refine MM.callVi (m_X7_areOfOne e12) k_X7_144 S emOK hEs hK ⟨by decide, by decide⟩ (va_recv hK hP rfl c_MO) rfl rfl hl.1 (Nat.le_of_ble_eq_true rfl) dX7_alone_78 ⟨Nat.le_refl _, Nat.le_refl _⟩ hP hD hS (fun H locs hP hD hS => ?_)
              refine lv_if_ne (tgt := 88) hx hb dX7_alone_81 (by decide) (fun c13 => ?_) (fun c13 => ?_)
              · have hF := ite_f hF c13
                exact b88 _ ih _ _ _ _ _  hF H locs ls hP hD hS (lv_sub hl [0, 1, 2, 3, 5] rfl)
              · have hF := ite_t hF c13
                exact b84 _ ih _ _ _ _ _  hF H locs ls hP hD hS (lv_sub hl [0, 1, 2, 3, 5] rfl)
  have b23 : ∀ (n : Nat) (u : Mem) (v1 : Int32) (v2 : Int32) (v3 : Int32) , F_X7_alone_23  n u v1 v2 v3 = some (r, u') → BW p l e s m below meth c 6 134 [.ref (a 0), .int x1] D (AM a) (some (.int r)) (wlM cc a u') 6 (wlM cc a u) 23 [(0, .ref (a 0)), (1, .int v1), (2, .int v2), (3, .int v3)] [] := by
    intro n
    induction n with
    | zero => intro u v1 v2 v3 hF; cases hF
    | succ n ih =>
      intro u v1 v2 v3 hF H locs ls hP hD hS hl
      unfold F_X7_alone_23 at hF
      refine lv_iload_n hx hb dX7_alone_23 rfl (lv_at hl 3 rfl) ?_
      refine lv_aload_n hx hb dX7_alone_24 rfl (lv_at hl 0 rfl) ?_
      refine va_get_w S hK hP _ c_MO rfl igX7 0 (by decide) q879 rfl rfl dX7_alone_25 ?_
      refine lv_iconst (v := 0) hx hb dX7_alone_28 (by decide) ?_
      obtain ⟨hin14, hF⟩ := gd_some hF
      refine mIald S hK hP ⟨rfl, by decide⟩ rfl hin14 dX7_alone_29 ?_
      refine lv_icmp_ge (tgt := 118) hx hb dX7_alone_30 (by decide) (fun c15 => ?_) (fun c15 => ?_)
      · have hF := ite_t hF c15
        refine lv_iload_n hx hb dX7_alone_118 rfl (lv_at hl 2 rfl) ?_
        obtain ⟨rfl, rfl⟩ := sp_eq hF
        exact retI S hr hlocks hP hD hS dX7_alone_119
      · have hF := ite_f hF c15
        refine lv_iload_n hx hb dX7_alone_33 rfl (lv_at hl 1 rfl) ?_
        refine lv_iload_n hx hb dX7_alone_34 rfl (lv_at hl 3 rfl) ?_
        obtain ⟨r17, u16, e18, hF⟩ := bdI_some hF
        refine MM.callSi (m_X7_has e18) k_X7_141 S emOK hEs hK ⟨by decide, by decide⟩ rfl rfl hl.1 (Nat.le_of_ble_eq_true rfl) dX7_alone_35 ⟨Nat.le_refl _, Nat.le_refl _⟩ hP hD hS (fun H locs hP hD hS => ?_)
        refine lv_istore (lv' := [(4, .int _), (0, .ref _), (1, .int _), (2, .int _), (3, .int _)]) hx hb dX7_alone_38 hl (by decide) rfl (fun ls hl => ?_)
        refine lv_iconst (v := 0) hx hb dX7_alone_40 (by decide) ?_
        refine lv_istore (lv' := [(5, .int _), (4, .int _), (0, .ref _), (1, .int _), (2, .int _), (3, .int _)]) hx hb dX7_alone_41 hl (by decide) rfl (fun ls hl => ?_)
        exact b43 _ ih _ _ _ _ _ _ _  hF H locs ls hP hD hS (lv_sub hl [2, 3, 4, 5, 1, 0] rfl)
  unfold F_X7_alone at hF
  have b_main : BW p l e s m below meth c 6 134 [.ref (a 0), .int x1] D (AM a) (some (.int r)) (wlM cc a u') 6 (wlM cc a u) 0 [(0, .ref (a 0)), (1, .int x1)] [] := by
    intro H locs ls hP hD hS hl
    refine lv_aload_n hx hb dX7_alone_0 rfl (lv_at hl 0 rfl) ?_
    refine lv_iload_n hx hb dX7_alone_1 rfl (lv_at hl 1 rfl) ?_
    obtain ⟨r20, u19, e21, hF⟩ := bdI_some hF
    refine MM.callVi (m_X7_isSet e21) k_X7_156 S emOK hEs hK ⟨by decide, by decide⟩ (va_recv hK hP rfl c_MO) rfl rfl hl.1 (Nat.le_of_ble_eq_true rfl) dX7_alone_2 ⟨Nat.le_refl _, Nat.le_refl _⟩ hP hD hS (fun H locs hP hD hS => ?_)
    refine lv_if_ne (tgt := 15) hx hb dX7_alone_5 (by decide) (fun c22 => ?_) (fun c22 => ?_)
    · have hF := ite_f hF c22
      refine lv_aload_n hx hb dX7_alone_15 rfl (lv_at hl 0 rfl) ?_
      obtain ⟨u23, e25, hF⟩ := bdV_some hF
      refine MM.callVv (m_X7_findCan e25) k_X7_147 S emOK hEs hK ⟨by decide, by decide⟩ (va_recv hK hP rfl c_MO) rfl rfl hl.1 (Nat.le_of_ble_eq_true rfl) dX7_alone_16 ⟨Nat.le_refl _, Nat.le_refl _⟩ hP hD hS (fun H locs hP hD hS => ?_)
      refine lv_iconst (v := 0) hx hb dX7_alone_19 (by decide) ?_
      refine lv_istore_n (lv' := [(2, .int _), (0, .ref _), (1, .int _)]) hx hb dX7_alone_20 rfl hl (by decide) rfl (fun ls hl => ?_)
      refine lv_iconst (v := 0) hx hb dX7_alone_21 (by decide) ?_
      refine lv_istore_n (lv' := [(3, .int _), (2, .int _), (0, .ref _), (1, .int _)]) hx hb dX7_alone_22 rfl hl (by decide) rfl (fun ls hl => ?_)
      exact b23 _ _ _ _ _  hF H locs ls hP hD hS (lv_sub hl [2, 3, 1, 0] rfl)
    · have hF := ite_t hF c22
      refine lv_aload_n hx hb dX7_alone_8 rfl (lv_at hl 0 rfl) ?_
      refine lv_ldc hx hb hown (hts _ q966) dX7_alone_9 ?_
      obtain ⟨r27, u26, e28, hF⟩ := bdI_some hF
      refine MM.callVi (m_X7_finds e28) k_X7_94 S emOK hEs hK ⟨by decide, by decide⟩ (va_recv hK hP rfl c_MO) rfl rfl hl.1 (Nat.le_of_ble_eq_true rfl) dX7_alone_11 ⟨Nat.le_refl _, Nat.le_refl _⟩ hP hD hS (fun H locs hP hD hS => ?_)
      obtain ⟨rfl, rfl⟩ := sp_eq hF
      exact retI S hr hlocks hP hD hS dX7_alone_14
  have hl := lv_entry ([.ref (a 0), .int x1]) (n := 6) (Nat.le_of_ble_eq_true rfl)
  rw [lg_entry_eq]
  generalize (lg_sl ([.ref (a 0), .int x1]) ++ List.replicate (6 - (lg_sl ([.ref (a 0), .int x1])).length) Slot.unset).toArray = ls at hl ⊢
  exact b_main _ _ _ hP hD hS hl

set_option maxRecDepth 100000 in
set_option maxHeartbeats 4000000 in
theorem m_X7_isAheadOf  {x1 : Int32} {x2 : Int32} {u u' : Mem} {r : Int32}  (hF : F_X7_isAheadOf  u x1 x2 = some (r, u')) : MR l D cc a yX7_isAheadOf cX7_isAheadOf 5 (some .boolean) 1 21 [.ref (a 0), .int x1, .int x2] u (some (.int r)) u' := by
  refine MM.ofW (by decide) (fun p e s m below meth c S hr hlocks hK hEs hP hD hS => ?_)
  have S : CallFix p m c cX7_isAheadOf 5 s _ gtbl RX7 := S
  obtain ⟨hx, hb, hml, hown, hts⟩ := id S
  have b49 : ∀ (k5 : Mem → Int32 → Int32 → Int32 → Int32 → Option (Int32 × Mem)) (hk5 : ∀ (u : Mem) (v1 : Int32) (v2 : Int32) (v3 : Int32) (v4 : Int32) , k5 u v1 v2 v3 v4 = some (r, u') → BW p l e s m below meth c 1 21 [.ref (a 0), .int x1, .int x2] D (AM a) (some (.int r)) (wlM cc a u') 5 (wlM cc a u) 5 [(0, .ref (a 0)), (1, .int v1), (2, .int v2), (3, .int v3), (4, .int v4)] []) (u : Mem) (v1 : Int32) (v2 : Int32) (v4 : Int32) (y0 : Int32) , F_X7_isAheadOf_49 k5 u v1 v2 v4 y0 = some (r, u') → BW p l e s m below meth c 1 21 [.ref (a 0), .int x1, .int x2] D (AM a) (some (.int r)) (wlM cc a u') 5 (wlM cc a u) 49 [(0, .ref (a 0)), (1, .int v1), (2, .int v2), (4, .int v4)] [.int y0] := by
    intro k5 hk5 u v1 v2 v4 y0 hF H locs ls hP hD hS hl
    unfold F_X7_isAheadOf_49 at hF
    refine lv_istore_n (lv' := [(3, .int _), (0, .ref _), (1, .int _), (2, .int _), (4, .int _)]) hx hb dX7_isAheadOf_49 rfl hl (by decide) rfl (fun ls hl => ?_)
    refine lv_inc1 (k := 4) (lv' := [(4, .int _), (3, .int _), (0, .ref _), (1, .int _), (2, .int _)]) hx hb dX7_isAheadOf_50 hl rfl (by decide) rfl (fun ls hl => ?_)
    refine lv_goto (tgt := 5) hx hb dX7_isAheadOf_53 (by decide) ?_
    exact hk5 _ _ _ _ _  hF H locs ls hP hD hS (lv_sub hl [2, 3, 4, 1, 0] rfl)
  have b44 : ∀ (k5 : Mem → Int32 → Int32 → Int32 → Int32 → Option (Int32 × Mem)) (hk5 : ∀ (u : Mem) (v1 : Int32) (v2 : Int32) (v3 : Int32) (v4 : Int32) , k5 u v1 v2 v3 v4 = some (r, u') → BW p l e s m below meth c 1 21 [.ref (a 0), .int x1, .int x2] D (AM a) (some (.int r)) (wlM cc a u') 5 (wlM cc a u) 5 [(0, .ref (a 0)), (1, .int v1), (2, .int v2), (3, .int v3), (4, .int v4)] []) (u : Mem) (v1 : Int32) (v2 : Int32) (v4 : Int32) , F_X7_isAheadOf_44 k5 u v1 v2 v4 = some (r, u') → BW p l e s m below meth c 1 21 [.ref (a 0), .int x1, .int x2] D (AM a) (some (.int r)) (wlM cc a u') 5 (wlM cc a u) 44 [(0, .ref (a 0)), (1, .int v1), (2, .int v2), (4, .int v4)] [] := by
    intro k5 hk5 u v1 v2 v4 hF H locs ls hP hD hS hl
    unfold F_X7_isAheadOf_44 at hF
    refine lv_iconst (v := 1) hx hb dX7_isAheadOf_44 (by decide) ?_
    refine lv_goto (tgt := 49) hx hb dX7_isAheadOf_45 (by decide) ?_
    exact b49 _ hk5 _ _ _ _ _  hF H locs ls hP hD hS (lv_sub hl [0, 1, 2, 3] rfl)
  have b48 : ∀ (k5 : Mem → Int32 → Int32 → Int32 → Int32 → Option (Int32 × Mem)) (hk5 : ∀ (u : Mem) (v1 : Int32) (v2 : Int32) (v3 : Int32) (v4 : Int32) , k5 u v1 v2 v3 v4 = some (r, u') → BW p l e s m below meth c 1 21 [.ref (a 0), .int x1, .int x2] D (AM a) (some (.int r)) (wlM cc a u') 5 (wlM cc a u) 5 [(0, .ref (a 0)), (1, .int v1), (2, .int v2), (3, .int v3), (4, .int v4)] []) (u : Mem) (v1 : Int32) (v2 : Int32) (v4 : Int32) , F_X7_isAheadOf_48 k5 u v1 v2 v4 = some (r, u') → BW p l e s m below meth c 1 21 [.ref (a 0), .int x1, .int x2] D (AM a) (some (.int r)) (wlM cc a u') 5 (wlM cc a u) 48 [(0, .ref (a 0)), (1, .int v1), (2, .int v2), (4, .int v4)] [] := by
    intro k5 hk5 u v1 v2 v4 hF H locs ls hP hD hS hl
    unfold F_X7_isAheadOf_48 at hF
    refine lv_iconst (v := 0) hx hb dX7_isAheadOf_48 (by decide) ?_
    exact b49 _ hk5 _ _ _ _ _  hF H locs ls hP hD hS (lv_sub hl [0, 1, 2, 3] rfl)
  have b5 : ∀ (n : Nat) (u : Mem) (v1 : Int32) (v2 : Int32) (v3 : Int32) (v4 : Int32) , F_X7_isAheadOf_5  n u v1 v2 v3 v4 = some (r, u') → BW p l e s m below meth c 1 21 [.ref (a 0), .int x1, .int x2] D (AM a) (some (.int r)) (wlM cc a u') 5 (wlM cc a u) 5 [(0, .ref (a 0)), (1, .int v1), (2, .int v2), (3, .int v3), (4, .int v4)] [] := by
    intro n
    induction n with
    | zero => intro u v1 v2 v3 v4 hF; cases hF
    | succ n ih =>
      intro u v1 v2 v3 v4 hF H locs ls hP hD hS hl
      unfold F_X7_isAheadOf_5 at hF
      refine lv_iload hx hb dX7_isAheadOf_5 (lv_at hl 4 rfl) ?_
      refine lv_aload_n hx hb dX7_isAheadOf_7 rfl (lv_at hl 0 rfl) ?_
      refine va_get_w S hK hP _ c_MO rfl igX7 0 (by decide) q879 rfl rfl dX7_isAheadOf_8 ?_
      refine lv_iconst (v := 0) hx hb dX7_isAheadOf_11 (by decide) ?_
      obtain ⟨hin1, hF⟩ := gd_some hF
      refine mIald S hK hP ⟨rfl, by decide⟩ rfl hin1 dX7_isAheadOf_12 ?_
      refine lv_icmp_ge (tgt := 56) hx hb dX7_isAheadOf_13 (by decide) (fun c2 => ?_) (fun c2 => ?_)
      · have hF := ite_t hF c2
        refine lv_iload_n hx hb dX7_isAheadOf_56 rfl (lv_at hl 3 rfl) ?_
        obtain ⟨hz3, hF⟩ := gz_some hF
        obtain ⟨rfl, rfl⟩ := sp_eq hF
        exact retZ S hr hlocks hP hD hS hz3 dX7_isAheadOf_57
      · have hF := ite_f hF c2
        refine lv_iload_n hx hb dX7_isAheadOf_16 rfl (lv_at hl 3 rfl) ?_
        refine lv_if_eq (tgt := 48) hx hb dX7_isAheadOf_17 (by decide) (fun c4 => ?_) (fun c4 => ?_)
        · have hF := ite_t hF c4
          exact b48 _ ih _ _ _ _  hF H locs ls hP hD hS (lv_sub hl [0, 1, 2, 4] rfl)
        · have hF := ite_f hF c4
          refine lv_iload_n hx hb dX7_isAheadOf_20 rfl (lv_at hl 2 rfl) ?_
          refine lv_iload hx hb dX7_isAheadOf_21 (lv_at hl 4 rfl) ?_
          obtain ⟨r6, u5, e7, hF⟩ := bdI_some hF
          refine MM.callSi (m_X7_has e7) k_X7_141 S emOK hEs hK ⟨by decide, by decide⟩ rfl rfl hl.1 (Nat.le_of_ble_eq_true rfl) dX7_isAheadOf_23 ⟨Nat.le_refl _, Nat.le_refl _⟩ hP hD hS (fun H locs hP hD hS => ?_)
          refine lv_if_eq (tgt := 44) hx hb dX7_isAheadOf_26 (by decide) (fun c8 => ?_) (fun c8 => ?_)
          · have hF := ite_t hF c8
            exact b44 _ ih _ _ _ _  hF H locs ls hP hD hS (lv_sub hl [0, 1, 2, 4] rfl)
          · have hF := ite_f hF c8
            refine lv_aload_n hx hb dX7_isAheadOf_29 rfl (lv_at hl 0 rfl) ?_
            refine va_get_w S hK hP _ c_MO rfl igX7 3 (by decide) q882 rfl rfl dX7_isAheadOf_30 ?_
            refine lv_bipush (v := 12) hx hb dX7_isAheadOf_33 (by decide) ?_
            refine lv_iload_n hx hb dX7_isAheadOf_35 rfl (lv_at hl 1 rfl) ?_
            refine lv_imul hx hb dX7_isAheadOf_36 ?_
            refine lv_iload hx hb dX7_isAheadOf_37 (lv_at hl 4 rfl) ?_
            refine lv_iadd hx hb dX7_isAheadOf_39 ?_
            obtain ⟨hin9, hF⟩ := gd_some hF
            refine mZald S hK hP ⟨rfl, by decide⟩ rfl hin9 dX7_isAheadOf_40 ?_
            refine lv_if_eq (tgt := 48) hx hb dX7_isAheadOf_41 (by decide) (fun c10 => ?_) (fun c10 => ?_)
            · have hF := ite_t hF c10
              exact b48 _ ih _ _ _ _  hF H locs ls hP hD hS (lv_sub hl [0, 1, 2, 4] rfl)
            · have hF := ite_f hF c10
              exact b44 _ ih _ _ _ _  hF H locs ls hP hD hS (lv_sub hl [0, 1, 2, 4] rfl)
  unfold F_X7_isAheadOf at hF
  have b_main : BW p l e s m below meth c 1 21 [.ref (a 0), .int x1, .int x2] D (AM a) (some (.int r)) (wlM cc a u') 5 (wlM cc a u) 0 [(0, .ref (a 0)), (1, .int x1), (2, .int x2)] [] := by
    intro H locs ls hP hD hS hl
    refine lv_iconst (v := 1) hx hb dX7_isAheadOf_0 (by decide) ?_
    refine lv_istore_n (lv' := [(3, .int _), (0, .ref _), (1, .int _), (2, .int _)]) hx hb dX7_isAheadOf_1 rfl hl (by decide) rfl (fun ls hl => ?_)
    refine lv_iconst (v := 0) hx hb dX7_isAheadOf_2 (by decide) ?_
    refine lv_istore (lv' := [(4, .int _), (3, .int _), (0, .ref _), (1, .int _), (2, .int _)]) hx hb dX7_isAheadOf_3 hl (by decide) rfl (fun ls hl => ?_)
    exact b5 _ _ _ _ _ _  hF H locs ls hP hD hS (lv_sub hl [2, 3, 4, 1, 0] rfl)
  have hl := lv_entry ([.ref (a 0), .int x1, .int x2]) (n := 5) (Nat.le_of_ble_eq_true rfl)
  rw [lg_entry_eq]
  generalize (lg_sl ([.ref (a 0), .int x1, .int x2]) ++ List.replicate (5 - (lg_sl ([.ref (a 0), .int x1, .int x2])).length) Slot.unset).toArray = ls at hl ⊢
  exact b_main _ _ _ hP hD hS hl

set_option maxRecDepth 100000 in
set_option maxHeartbeats 4000000 in
theorem m_X7_findOrders  {x1 : Int32} {u u' : Mem}  (hF : F_X7_findOrders  u x1 = some u') : MR l D cc a yX7_findOrders cX7_findOrders 6 none 6 134 [.ref (a 0), .int x1] u none u' := by
  refine MM.ofW (by decide) (fun p e s m below meth c S hr hlocks hK hEs hP hD hS => ?_)
  have S : CallFix p m c cX7_findOrders 6 s _ gtbl RX7 := S
  obtain ⟨hx, hb, hml, hown, hts⟩ := id S
  have b99 : ∀ (k13 : Mem → Int32 → Int32 → Option Mem) (hk13 : ∀ (u : Mem) (v1 : Int32) (v2 : Int32) , k13 u v1 v2 = some u' → BW p l e s m below meth c 6 134 [.ref (a 0), .int x1] D (AM a) none (wlM cc a u') 6 (wlM cc a u) 13 [(0, .ref (a 0)), (1, .int v1), (2, .int v2)] []) (u : Mem) (v1 : Int32) (v2 : Int32) , F_X7_findOrders_99 k13 u v1 v2 = some u' → BW p l e s m below meth c 6 134 [.ref (a 0), .int x1] D (AM a) none (wlM cc a u') 6 (wlM cc a u) 99 [(0, .ref (a 0)), (1, .int v1), (2, .int v2)] [] := by
    intro k13 hk13 u v1 v2 hF H locs ls hP hD hS hl
    unfold F_X7_findOrders_99 at hF
    refine lv_inc1 (k := 2) (lv' := [(2, .int _), (0, .ref _), (1, .int _)]) hx hb dX7_findOrders_99 hl rfl (by decide) rfl (fun ls hl => ?_)
    refine lv_goto (tgt := 13) hx hb dX7_findOrders_102 (by decide) ?_
    exact hk13 _ _ _  hF H locs ls hP hD hS (lv_sub hl [1, 2, 0] rfl)
  have b84 : ∀ (k31 : Mem → Int32 → Int32 → Int32 → Int32 → Option Mem) (hk31 : ∀ (u : Mem) (v1 : Int32) (v2 : Int32) (v3 : Int32) (v4 : Int32) , k31 u v1 v2 v3 v4 = some u' → BW p l e s m below meth c 6 134 [.ref (a 0), .int x1] D (AM a) none (wlM cc a u') 6 (wlM cc a u) 31 [(0, .ref (a 0)), (1, .int v1), (2, .int v2), (3, .int v3), (4, .int v4)] []) (u : Mem) (v1 : Int32) (v2 : Int32) (v4 : Int32) (y0 : Int32) (y1 : Int32) , F_X7_findOrders_84 k31 u v1 v2 v4 y0 y1 = some u' → BW p l e s m below meth c 6 134 [.ref (a 0), .int x1] D (AM a) none (wlM cc a u') 6 (wlM cc a u) 84 [(0, .ref (a 0)), (1, .int v1), (2, .int v2), (4, .int v4)] [.int y1, .int y0] := by
    intro k31 hk31 u v1 v2 v4 y0 y1 hF H locs ls hP hD hS hl
    unfold F_X7_findOrders_84 at hF
    refine lv_iadd hx hb dX7_findOrders_84 ?_
    refine lv_istore_n (lv' := [(3, .int _), (0, .ref _), (1, .int _), (2, .int _), (4, .int _)]) hx hb dX7_findOrders_85 rfl hl (by decide) rfl (fun ls hl => ?_)
    refine lv_inc1 (k := 4) (lv' := [(4, .int _), (3, .int _), (0, .ref _), (1, .int _), (2, .int _)]) hx hb dX7_findOrders_86 hl rfl (by decide) rfl (fun ls hl => ?_)
    refine lv_goto (tgt := 31) hx hb dX7_findOrders_89 (by decide) ?_
    exact hk31 _ _ _ _ _  hF H locs ls hP hD hS (lv_sub hl [2, 3, 4, 1, 0] rfl)
  have b83 : ∀ (k31 : Mem → Int32 → Int32 → Int32 → Int32 → Option Mem) (hk31 : ∀ (u : Mem) (v1 : Int32) (v2 : Int32) (v3 : Int32) (v4 : Int32) , k31 u v1 v2 v3 v4 = some u' → BW p l e s m below meth c 6 134 [.ref (a 0), .int x1] D (AM a) none (wlM cc a u') 6 (wlM cc a u) 31 [(0, .ref (a 0)), (1, .int v1), (2, .int v2), (3, .int v3), (4, .int v4)] []) (u : Mem) (v1 : Int32) (v2 : Int32) (v4 : Int32) (y0 : Int32) , F_X7_findOrders_83 k31 u v1 v2 v4 y0 = some u' → BW p l e s m below meth c 6 134 [.ref (a 0), .int x1] D (AM a) none (wlM cc a u') 6 (wlM cc a u) 83 [(0, .ref (a 0)), (1, .int v1), (2, .int v2), (4, .int v4)] [.int y0] := by
    intro k31 hk31 u v1 v2 v4 y0 hF H locs ls hP hD hS hl
    unfold F_X7_findOrders_83 at hF
    refine lv_iconst (v := 0) hx hb dX7_findOrders_83 (by decide) ?_
    exact b84 _ hk31 _ _ _ _ _ _  hF H locs ls hP hD hS (lv_sub hl [0, 1, 2, 3] rfl)
  have b31 : ∀ (k13 : Mem → Int32 → Int32 → Option Mem) (hk13 : ∀ (u : Mem) (v1 : Int32) (v2 : Int32) , k13 u v1 v2 = some u' → BW p l e s m below meth c 6 134 [.ref (a 0), .int x1] D (AM a) none (wlM cc a u') 6 (wlM cc a u) 13 [(0, .ref (a 0)), (1, .int v1), (2, .int v2)] []), ∀ (n : Nat) (u : Mem) (v1 : Int32) (v2 : Int32) (v3 : Int32) (v4 : Int32) , F_X7_findOrders_31 k13 n u v1 v2 v3 v4 = some u' → BW p l e s m below meth c 6 134 [.ref (a 0), .int x1] D (AM a) none (wlM cc a u') 6 (wlM cc a u) 31 [(0, .ref (a 0)), (1, .int v1), (2, .int v2), (3, .int v3), (4, .int v4)] [] := by
    intro k13 hk13
    intro n
    induction n with
    | zero => intro u v1 v2 v3 v4 hF; cases hF
    | succ n ih =>
      intro u v1 v2 v3 v4 hF H locs ls hP hD hS hl
      unfold F_X7_findOrders_31 at hF
      refine lv_iload hx hb dX7_findOrders_31 (lv_at hl 4 rfl) ?_
      refine lv_aload_n hx hb dX7_findOrders_33 rfl (lv_at hl 0 rfl) ?_
      refine va_get_w S hK hP _ c_MO rfl igX7 0 (by decide) q879 rfl rfl dX7_findOrders_34 ?_
      refine lv_iconst (v := 0) hx hb dX7_findOrders_37 (by decide) ?_
      obtain ⟨hin1, hF⟩ := gd_some hF
      refine mIald S hK hP ⟨rfl, by decide⟩ rfl hin1 dX7_findOrders_38 ?_
      refine lv_icmp_ge (tgt := 92) hx hb dX7_findOrders_39 (by decide) (fun c2 => ?_) (fun c2 => ?_)
      · have hF := ite_t hF c2
        refine lv_aload_n hx hb dX7_findOrders_92 rfl (lv_at hl 0 rfl) ?_
        refine va_get_w S hK hP _ c_MO rfl igX7 6 (by decide) q885 rfl rfl dX7_findOrders_93 ?_
        refine lv_iload_n hx hb dX7_findOrders_96 rfl (lv_at hl 2 rfl) ?_
        refine lv_iload_n hx hb dX7_findOrders_97 rfl (lv_at hl 3 rfl) ?_
        obtain ⟨hin3, hF⟩ := gd_some hF
        refine mIast S hK hP hD hS ⟨rfl, by decide⟩ rfl hin3 dX7_findOrders_98 (fun H locs hP hD hS => ?_)
        exact b99 _ hk13 _ _ _  hF H locs ls hP hD hS (lv_sub hl [0, 1, 2] rfl)
      · have hF := ite_f hF c2
        refine lv_iload_n hx hb dX7_findOrders_42 rfl (lv_at hl 2 rfl) ?_
        refine lv_iconst (v := 1) hx hb dX7_findOrders_43 (by decide) ?_
        refine lv_iload hx hb dX7_findOrders_44 (lv_at hl 4 rfl) ?_
        refine lv_ishl hx hb dX7_findOrders_46 ?_
        refine lv_iconst (v := -1) hx hb dX7_findOrders_47 (by decide) ?_
        refine lv_ixor hx hb dX7_findOrders_48 ?_
        refine lv_iand hx hb dX7_findOrders_49 ?_
        refine lv_istore (lv' := [(5, .int _), (0, .ref _), (1, .int _), (2, .int _), (3, .int _), (4, .int _)]) hx hb dX7_findOrders_50 hl (by decide) rfl (fun ls hl => ?_)
        refine lv_iload_n hx hb dX7_findOrders_52 rfl (lv_at hl 4 rfl) ?_
        refine lv_iload_n hx hb dX7_findOrders_53 rfl (lv_at hl 3 rfl) ?_
        refine lv_iload hx hb dX7_findOrders_54 (lv_at hl 5 rfl) ?_
        obtain ⟨r5, u4, e6, hF⟩ := bdI_some hF
        refine MM.callSi (m_X7_has e6) k_X7_141 S emOK hEs hK ⟨by decide, by decide⟩ rfl rfl hl.1 (Nat.le_of_ble_eq_true rfl) dX7_findOrders_56 ⟨Nat.le_refl _, Nat.le_refl _⟩ hP hD hS (fun H locs hP hD hS => ?_)
        refine lv_if_eq (tgt := 83) hx hb dX7_findOrders_59 (by decide) (fun c7 => ?_) (fun c7 => ?_)
        · have hF := ite_t hF c7
          exact b83 _ ih _ _ _ _ _  hF H locs ls hP hD hS (lv_sub hl [1, 2, 3, 5] rfl)
        · have hF := ite_f hF c7
          refine lv_aload_n hx hb dX7_findOrders_62 rfl (lv_at hl 1 rfl) ?_
          refine lv_iload hx hb dX7_findOrders_63 (lv_at hl 5 rfl) ?_
          refine lv_iload hx hb dX7_findOrders_65 (lv_at hl 0 rfl) ?_
          obtain ⟨r9, u8, e10, hF⟩ := bdI_some hF
          refine MM.callVi (m_X7_isAheadOf e10) k_X7_171 S emOK hEs hK ⟨by decide, by decide⟩ (va_recv hK hP rfl c_MO) rfl rfl hl.1 (Nat.le_of_ble_eq_true rfl) dX7_findOrders_67 ⟨Nat.le_refl _, Nat.le_refl _⟩ hP hD hS (fun H locs hP hD hS => ?_)
          refine lv_if_eq (tgt := 83) hx hb dX7_findOrders_70 (by decide) (fun c11 => ?_) (fun c11 => ?_)
          · have hF := ite_t hF c11
            exact b83 _ ih _ _ _ _ _  hF H locs ls hP hD hS (lv_sub hl [1, 2, 3, 5] rfl)
          · have hF := ite_f hF c11
            refine lv_aload_n hx hb dX7_findOrders_73 rfl (lv_at hl 1 rfl) ?_
            refine va_get_w S hK hP _ c_MO rfl igX7 6 (by decide) q885 rfl rfl dX7_findOrders_74 ?_
            refine lv_iload hx hb dX7_findOrders_77 (lv_at hl 0 rfl) ?_
            obtain ⟨hin12, hF⟩ := gd_some hF
            refine mIald S hK hP ⟨rfl, by decide⟩ rfl hin12 dX7_findOrders_79 ?_
            refine lv_goto (tgt := 84) hx hb dX7_findOrders_80 (by decide) ?_
            exact b84 _ ih _ _ _ _ _ _  hF H locs ls hP hD hS (lv_sub hl [1, 2, 3, 5] rfl)
  have b13 : ∀ (n : Nat) (u : Mem) (v1 : Int32) (v2 : Int32) , F_X7_findOrders_13  n u v1 v2 = some u' → BW p l e s m below meth c 6 134 [.ref (a 0), .int x1] D (AM a) none (wlM cc a u') 6 (wlM cc a u) 13 [(0, .ref (a 0)), (1, .int v1), (2, .int v2)] [] := by
    intro n
    induction n with
    | zero => intro u v1 v2 hF; cases hF
    | succ n ih =>
      intro u v1 v2 hF H locs ls hP hD hS hl
      unfold F_X7_findOrders_13 at hF
      refine lv_iload_n hx hb dX7_findOrders_13 rfl (lv_at hl 2 rfl) ?_
      refine lv_iload_n hx hb dX7_findOrders_14 rfl (lv_at hl 1 rfl) ?_
      refine lv_icmp_gt (tgt := 105) hx hb dX7_findOrders_15 (by decide) (fun c13 => ?_) (fun c13 => ?_)
      · have hF := ite_t hF c13
        obtain rfl := sv_eq hF
        exact retV S hr hlocks hP hD hS dX7_findOrders_105
      · have hF := ite_f hF c13
        refine lv_iload_n hx hb dX7_findOrders_18 rfl (lv_at hl 2 rfl) ?_
        refine lv_iload_n hx hb dX7_findOrders_19 rfl (lv_at hl 1 rfl) ?_
        refine lv_iconst (v := -1) hx hb dX7_findOrders_20 (by decide) ?_
        refine lv_ixor hx hb dX7_findOrders_21 ?_
        refine lv_iand hx hb dX7_findOrders_22 ?_
        refine lv_if_ne (tgt := 99) hx hb dX7_findOrders_23 (by decide) (fun c14 => ?_) (fun c14 => ?_)
        · have hF := ite_f hF c14
          exact b99 _ ih _ _ _  hF H locs ls hP hD hS (lv_sub hl [0, 1, 2] rfl)
        · have hF := ite_t hF c14
          refine lv_iconst (v := 0) hx hb dX7_findOrders_26 (by decide) ?_
          refine lv_istore_n (lv' := [(3, .int _), (0, .ref _), (1, .int _), (2, .int _)]) hx hb dX7_findOrders_27 rfl hl (by decide) rfl (fun ls hl => ?_)
          refine lv_iconst (v := 0) hx hb dX7_findOrders_28 (by decide) ?_
          refine lv_istore (lv' := [(4, .int _), (3, .int _), (0, .ref _), (1, .int _), (2, .int _)]) hx hb dX7_findOrders_29 hl (by decide) rfl (fun ls hl => ?_)
          exact b31 _ ih _ _ _ _ _ _  hF H locs ls hP hD hS (lv_sub hl [2, 3, 4, 1, 0] rfl)
  unfold F_X7_findOrders at hF
  have b_main : BW p l e s m below meth c 6 134 [.ref (a 0), .int x1] D (AM a) none (wlM cc a u') 6 (wlM cc a u) 0 [(0, .ref (a 0)), (1, .int x1)] [] := by
    intro H locs ls hP hD hS hl
    refine lv_aload_n hx hb dX7_findOrders_0 rfl (lv_at hl 0 rfl) ?_
    obtain ⟨u15, e17, hF⟩ := bdV_some hF
    refine MM.callVv (m_X7_findCan e17) k_X7_147 S emOK hEs hK ⟨by decide, by decide⟩ (va_recv hK hP rfl c_MO) rfl rfl hl.1 (Nat.le_of_ble_eq_true rfl) dX7_findOrders_1 ⟨Nat.le_refl _, Nat.le_refl _⟩ hP hD hS (fun H locs hP hD hS => ?_)
    refine lv_aload_n hx hb dX7_findOrders_4 rfl (lv_at hl 0 rfl) ?_
    refine va_get_w S hK hP _ c_MO rfl igX7 6 (by decide) q885 rfl rfl dX7_findOrders_5 ?_
    refine lv_iconst (v := 0) hx hb dX7_findOrders_8 (by decide) ?_
    refine lv_iconst (v := 1) hx hb dX7_findOrders_9 (by decide) ?_
    obtain ⟨hin18, hF⟩ := gd_some hF
    refine mIast S hK hP hD hS ⟨rfl, by decide⟩ rfl hin18 dX7_findOrders_10 (fun H locs hP hD hS => ?_)
    refine lv_iconst (v := 1) hx hb dX7_findOrders_11 (by decide) ?_
    refine lv_istore_n (lv' := [(2, .int _), (0, .ref _), (1, .int _)]) hx hb dX7_findOrders_12 rfl hl (by decide) rfl (fun ls hl => ?_)
    exact b13 _ _ _ _  hF H locs ls hP hD hS (lv_sub hl [1, 2, 0] rfl)
  have hl := lv_entry ([.ref (a 0), .int x1]) (n := 6) (Nat.le_of_ble_eq_true rfl)
  rw [lg_entry_eq]
  generalize (lg_sl ([.ref (a 0), .int x1]) ++ List.replicate (6 - (lg_sl ([.ref (a 0), .int x1])).length) Slot.unset).toArray = ls at hl ⊢
  exact b_main _ _ _ hP hD hS hl

set_option maxRecDepth 100000 in
set_option maxHeartbeats 4000000 in
theorem m_X7_orders  {x1 : Int32} {u u' : Mem} {r : Int32}  (hF : F_X7_orders  u x1 = some (r, u')) : MR l D cc a yX7_orders cX7_orders 2 (some .int) 7 159 [.ref (a 0), .int x1] u (some (.int r)) u' := by
  refine MM.ofW (by decide) (fun p e s m below meth c S hr hlocks hK hEs hP hD hS => ?_)
  have S : CallFix p m c cX7_orders 2 s _ gtbl RX7 := S
  obtain ⟨hx, hb, hml, hown, hts⟩ := id S
  unfold F_X7_orders at hF
  have b_main : BW p l e s m below meth c 7 159 [.ref (a 0), .int x1] D (AM a) (some (.int r)) (wlM cc a u') 2 (wlM cc a u) 0 [(0, .ref (a 0)), (1, .int x1)] [] := by
    intro H locs ls hP hD hS hl
    refine lv_aload_n hx hb dX7_orders_0 rfl (lv_at hl 0 rfl) ?_
    refine lv_iload_n hx hb dX7_orders_1 rfl (lv_at hl 1 rfl) ?_
    obtain ⟨r2, u1, e3, hF⟩ := bdI_some hF
    refine MM.callVi (m_X7_isSet e3) k_X7_156 S emOK hEs hK ⟨by decide, by decide⟩ (va_recv hK hP rfl c_MO) rfl rfl hl.1 (Nat.le_of_ble_eq_true rfl) dX7_orders_2 ⟨Nat.le_refl _, Nat.le_refl _⟩ hP hD hS (fun H locs hP hD hS => ?_)
    refine lv_if_ne (tgt := 15) hx hb dX7_orders_5 (by decide) (fun c4 => ?_) (fun c4 => ?_)
    · have hF := ite_f hF c4
      refine lv_iload_n hx hb dX7_orders_15 rfl (lv_at hl 1 rfl) ?_
      obtain ⟨r6, u5, e7, hF⟩ := bdI_some hF
      refine MM.callSi (m_X7_ones e7) k_X7_162 S emOK hEs hK ⟨by decide, by decide⟩ rfl rfl hl.1 (Nat.le_of_ble_eq_true rfl) dX7_orders_16 ⟨Nat.le_refl _, Nat.le_refl _⟩ hP hD hS (fun H locs hP hD hS => ?_)
      refine lv_bipush (v := 8) hx hb dX7_orders_19 (by decide) ?_
      refine lv_icmp_le (tgt := 31) hx hb dX7_orders_21 (by decide) (fun c8 => ?_) (fun c8 => ?_)
      · have hF := ite_t hF c8
        refine lv_aload_n hx hb dX7_orders_31 rfl (lv_at hl 0 rfl) ?_
        refine lv_iload_n hx hb dX7_orders_32 rfl (lv_at hl 1 rfl) ?_
        obtain ⟨u9, e11, hF⟩ := bdV_some hF
        refine MM.callVv (m_X7_findOrders e11) k_X7_175 S emOK hEs hK ⟨by decide, by decide⟩ (va_recv hK hP rfl c_MO) rfl rfl hl.1 (Nat.le_of_ble_eq_true rfl) dX7_orders_33 ⟨Nat.le_refl _, Nat.le_refl _⟩ hP hD hS (fun H locs hP hD hS => ?_)
        refine lv_aload_n hx hb dX7_orders_36 rfl (lv_at hl 0 rfl) ?_
        refine va_get_w S hK hP _ c_MO rfl igX7 6 (by decide) q885 rfl rfl dX7_orders_37 ?_
        refine lv_iload_n hx hb dX7_orders_40 rfl (lv_at hl 1 rfl) ?_
        obtain ⟨hin12, hF⟩ := gd_some hF
        refine mIald S hK hP ⟨rfl, by decide⟩ rfl hin12 dX7_orders_41 ?_
        obtain ⟨rfl, rfl⟩ := sp_eq hF
        exact retI S hr hlocks hP hD hS dX7_orders_42
      · have hF := ite_f hF c8
        refine lv_aload_n hx hb dX7_orders_24 rfl (lv_at hl 0 rfl) ?_
        refine lv_ldc hx hb hown (hts _ q1150) dX7_orders_25 ?_
        obtain ⟨r14, u13, e15, hF⟩ := bdI_some hF
        refine MM.callVi (m_X7_finds e15) k_X7_94 S emOK hEs hK ⟨by decide, by decide⟩ (va_recv hK hP rfl c_MO) rfl rfl hl.1 (Nat.le_of_ble_eq_true rfl) dX7_orders_27 ⟨Nat.le_refl _, Nat.le_refl _⟩ hP hD hS (fun H locs hP hD hS => ?_)
        obtain ⟨rfl, rfl⟩ := sp_eq hF
        exact retI S hr hlocks hP hD hS dX7_orders_30
    · have hF := ite_t hF c4
      refine lv_aload_n hx hb dX7_orders_8 rfl (lv_at hl 0 rfl) ?_
      refine lv_ldc hx hb hown (hts _ q966) dX7_orders_9 ?_
      obtain ⟨r17, u16, e18, hF⟩ := bdI_some hF
      refine MM.callVi (m_X7_finds e18) k_X7_94 S emOK hEs hK ⟨by decide, by decide⟩ (va_recv hK hP rfl c_MO) rfl rfl hl.1 (Nat.le_of_ble_eq_true rfl) dX7_orders_11 ⟨Nat.le_refl _, Nat.le_refl _⟩ hP hD hS (fun H locs hP hD hS => ?_)
      obtain ⟨rfl, rfl⟩ := sp_eq hF
      exact retI S hr hlocks hP hD hS dX7_orders_14
  have hl := lv_entry ([.ref (a 0), .int x1]) (n := 2) (Nat.le_of_ble_eq_true rfl)
  rw [lg_entry_eq]
  generalize (lg_sl ([.ref (a 0), .int x1]) ++ List.replicate (2 - (lg_sl ([.ref (a 0), .int x1])).length) Slot.unset).toArray = ls at hl ⊢
  exact b_main _ _ _ hP hD hS hl

set_option maxRecDepth 100000 in
set_option maxHeartbeats 4000000 in
theorem m_X7_ith  {x1 : Int32} {x2 : Int32} {u u' : Mem} {r : Int32}  (hF : F_X7_ith  u x1 x2 = some (r, u')) : MR l D cc a yX7_ith cX7_ith 6 (some .int) 7 159 [.ref (a 0), .int x1, .int x2] u (some (.int r)) u' := by
  refine MM.ofW (by decide) (fun p e s m below meth c S hr hlocks hK hEs hP hD hS => ?_)
  have S : CallFix p m c cX7_ith 6 s _ gtbl RX7 := S
  obtain ⟨hx, hb, hml, hown, hts⟩ := id S
  have b18 : ∀  (u : Mem)  , F_X7_ith_18  u  = some (r, u') → BW p l e s m below meth c 7 159 [.ref (a 0), .int x1, .int x2] D (AM a) (some (.int r)) (wlM cc a u') 6 (wlM cc a u) 18 [(0, .ref (a 0))] [] := by
    intro  u  hF H locs ls hP hD hS hl
    unfold F_X7_ith_18 at hF
    refine lv_aload_n hx hb dX7_ith_18 rfl (lv_at hl 0 rfl) ?_
    refine lv_ldc hx hb hown (hts _ q966) dX7_ith_19 ?_
    obtain ⟨r2, u1, e3, hF⟩ := bdI_some hF
    refine MM.callVi (m_X7_finds e3) k_X7_94 S emOK hEs hK ⟨by decide, by decide⟩ (va_recv hK hP rfl c_MO) rfl rfl hl.1 (Nat.le_of_ble_eq_true rfl) dX7_ith_21 ⟨Nat.le_refl _, Nat.le_refl _⟩ hP hD hS (fun H locs hP hD hS => ?_)
    obtain ⟨rfl, rfl⟩ := sp_eq hF
    exact retI S hr hlocks hP hD hS dX7_ith_24
  have b63 : ∀  (u : Mem)  , F_X7_ith_63  u  = some (r, u') → BW p l e s m below meth c 7 159 [.ref (a 0), .int x1, .int x2] D (AM a) (some (.int r)) (wlM cc a u') 6 (wlM cc a u) 63 [(0, .ref (a 0))] [] := by
    intro  u  hF H locs ls hP hD hS hl
    unfold F_X7_ith_63 at hF
    refine lv_aload_n hx hb dX7_ith_63 rfl (lv_at hl 0 rfl) ?_
    refine lv_ldc hx hb hown (hts _ q1079) dX7_ith_64 ?_
    obtain ⟨r5, u4, e6, hF⟩ := bdI_some hF
    refine MM.callVi (m_X7_finds e6) k_X7_94 S emOK hEs hK ⟨by decide, by decide⟩ (va_recv hK hP rfl c_MO) rfl rfl hl.1 (Nat.le_of_ble_eq_true rfl) dX7_ith_66 ⟨Nat.le_refl _, Nat.le_refl _⟩ hP hD hS (fun H locs hP hD hS => ?_)
    obtain ⟨rfl, rfl⟩ := sp_eq hF
    exact retI S hr hlocks hP hD hS dX7_ith_69
  have b129 : ∀ (k87 : Mem → Int32 → Int32 → Int32 → Int32 → Option (Int32 × Mem)) (hk87 : ∀ (u : Mem) (v2 : Int32) (v3 : Int32) (v4 : Int32) (v5 : Int32) , k87 u v2 v3 v4 v5 = some (r, u') → BW p l e s m below meth c 7 159 [.ref (a 0), .int x1, .int x2] D (AM a) (some (.int r)) (wlM cc a u') 6 (wlM cc a u) 87 [(0, .ref (a 0)), (2, .int v2), (3, .int v3), (4, .int v4), (5, .int v5)] []) (u : Mem) (v2 : Int32) (v3 : Int32) (v4 : Int32) (v5 : Int32) , F_X7_ith_129 k87 u v2 v3 v4 v5 = some (r, u') → BW p l e s m below meth c 7 159 [.ref (a 0), .int x1, .int x2] D (AM a) (some (.int r)) (wlM cc a u') 6 (wlM cc a u) 129 [(0, .ref (a 0)), (2, .int v2), (3, .int v3), (4, .int v4), (5, .int v5)] [] := by
    intro k87 hk87 u v2 v3 v4 v5 hF H locs ls hP hD hS hl
    unfold F_X7_ith_129 at hF
    refine lv_inc1 (k := 3) (lv' := [(4, .int _), (0, .ref _), (2, .int _), (3, .int _), (5, .int _)]) hx hb dX7_ith_129 hl rfl (by decide) rfl (fun ls hl => ?_)
    refine lv_goto (tgt := 87) hx hb dX7_ith_132 (by decide) ?_
    exact hk87 _ _ _ _ _  hF H locs ls hP hD hS (lv_sub hl [1, 2, 3, 0, 4] rfl)
  have b87 : ∀ (k78 : Mem → Int32 → Int32 → Int32 → Int32 → Option (Int32 × Mem)) (hk78 : ∀ (u : Mem) (v2 : Int32) (v3 : Int32) (v4 : Int32) (v5 : Int32) , k78 u v2 v3 v4 v5 = some (r, u') → BW p l e s m below meth c 7 159 [.ref (a 0), .int x1, .int x2] D (AM a) (some (.int r)) (wlM cc a u') 6 (wlM cc a u) 78 [(0, .ref (a 0)), (2, .int v2), (3, .int v3), (4, .int v4), (5, .int v5)] []), ∀ (n : Nat) (u : Mem) (v2 : Int32) (v3 : Int32) (v4 : Int32) (v5 : Int32) , F_X7_ith_87 k78 n u v2 v3 v4 v5 = some (r, u') → BW p l e s m below meth c 7 159 [.ref (a 0), .int x1, .int x2] D (AM a) (some (.int r)) (wlM cc a u') 6 (wlM cc a u) 87 [(0, .ref (a 0)), (2, .int v2), (3, .int v3), (4, .int v4), (5, .int v5)] [] := by
    intro k78 hk78
    intro n
    induction n with
    | zero => intro u v2 v3 v4 v5 hF; cases hF
    | succ n ih =>
      intro u v2 v3 v4 v5 hF H locs ls hP hD hS hl
      unfold F_X7_ith_87 at hF
      refine lv_iload_n hx hb dX7_ith_87 rfl (lv_at hl 2 rfl) ?_
      refine lv_iload hx hb dX7_ith_88 (lv_at hl 3 rfl) ?_
      obtain ⟨r8, u7, e9, hF⟩ := bdI_some hF
      refine MM.callSi (m_X7_has e9) k_X7_141 S emOK hEs hK ⟨by decide, by decide⟩ rfl rfl hl.1 (Nat.le_of_ble_eq_true rfl) dX7_ith_90 ⟨Nat.le_refl _, Nat.le_refl _⟩ hP hD hS (fun H locs hP hD hS => ?_)
      refine lv_if_eq (tgt := 129) hx hb dX7_ith_93 (by decide) (fun c10 => ?_) (fun c10 => ?_)
      · have hF := ite_t hF c10
        exact b129 _ ih _ _ _ _ _  hF H locs ls hP hD hS (lv_sub hl [0, 1, 2, 3, 4] rfl)
      · have hF := ite_f hF c10
        refine lv_aload_n hx hb dX7_ith_96 rfl (lv_at hl 0 rfl) ?_
        refine lv_iload hx hb dX7_ith_97 (lv_at hl 3 rfl) ?_
        refine lv_iload_n hx hb dX7_ith_99 rfl (lv_at hl 2 rfl) ?_
        refine lv_iconst (v := 1) hx hb dX7_ith_100 (by decide) ?_
        refine lv_iload hx hb dX7_ith_101 (lv_at hl 3 rfl) ?_
        refine lv_ishl hx hb dX7_ith_103 ?_
        refine lv_iconst (v := -1) hx hb dX7_ith_104 (by decide) ?_
        refine lv_ixor hx hb dX7_ith_105 ?_
        refine lv_iand hx hb dX7_ith_106 ?_
        obtain ⟨r12, u11, e13, hF⟩ := bdI_some hF
        refine MM.callVi (m_X7_isAheadOf e13) k_X7_171 S emOK hEs hK ⟨by decide, by decide⟩ (va_recv hK hP rfl c_MO) rfl rfl hl.1 (Nat.le_of_ble_eq_true rfl) dX7_ith_107 ⟨Nat.le_refl _, Nat.le_refl _⟩ hP hD hS (fun H locs hP hD hS => ?_)
        refine lv_if_eq (tgt := 129) hx hb dX7_ith_110 (by decide) (fun c14 => ?_) (fun c14 => ?_)
        · have hF := ite_t hF c14
          exact b129 _ ih _ _ _ _ _  hF H locs ls hP hD hS (lv_sub hl [0, 1, 2, 3, 4] rfl)
        · have hF := ite_f hF c14
          refine lv_aload_n hx hb dX7_ith_113 rfl (lv_at hl 0 rfl) ?_
          refine va_get_w S hK hP _ c_MO rfl igX7 6 (by decide) q885 rfl rfl dX7_ith_114 ?_
          refine lv_iload_n hx hb dX7_ith_117 rfl (lv_at hl 2 rfl) ?_
          refine lv_iconst (v := 1) hx hb dX7_ith_118 (by decide) ?_
          refine lv_iload hx hb dX7_ith_119 (lv_at hl 3 rfl) ?_
          refine lv_ishl hx hb dX7_ith_121 ?_
          refine lv_iconst (v := -1) hx hb dX7_ith_122 (by decide) ?_
          refine lv_ixor hx hb dX7_ith_123 ?_
          refine lv_iand hx hb dX7_ith_124 ?_
          obtain ⟨hin15, hF⟩ := gd_some hF
          refine mIald S hK hP ⟨rfl, by decide⟩ rfl hin15 dX7_ith_125 ?_
          refine lv_if_ne (tgt := 135) hx hb dX7_ith_126 (by decide) (fun c16 => ?_) (fun c16 => ?_)
          · have hF := ite_f hF c16
            refine lv_iload_n hx hb dX7_ith_135 rfl (lv_at hl 2 rfl) ?_
            refine lv_iconst (v := 1) hx hb dX7_ith_136 (by decide) ?_
            refine lv_iload hx hb dX7_ith_137 (lv_at hl 3 rfl) ?_
            refine lv_ishl hx hb dX7_ith_139 ?_
            refine lv_iconst (v := -1) hx hb dX7_ith_140 (by decide) ?_
            refine lv_ixor hx hb dX7_ith_141 ?_
            refine lv_iand hx hb dX7_ith_142 ?_
            refine lv_istore_n (lv' := [(3, .int _), (0, .ref _), (2, .int _), (4, .int _), (5, .int _)]) hx hb dX7_ith_143 rfl hl (by decide) rfl (fun ls hl => ?_)
            refine lv_inc1 (k := 4) (lv' := [(5, .int _), (3, .int _), (0, .ref _), (2, .int _), (4, .int _)]) hx hb dX7_ith_144 hl rfl (by decide) rfl (fun ls hl => ?_)
            refine lv_goto (tgt := 78) hx hb dX7_ith_147 (by decide) ?_
            exact hk78 _ _ _ _ _  hF H locs ls hP hD hS (lv_sub hl [2, 3, 1, 4, 0] rfl)
          · have hF := ite_t hF c16
            exact b129 _ ih _ _ _ _ _  hF H locs ls hP hD hS (lv_sub hl [0, 1, 2, 3, 4] rfl)
  have b78 : ∀ (n : Nat) (u : Mem) (v2 : Int32) (v3 : Int32) (v4 : Int32) (v5 : Int32) , F_X7_ith_78  n u v2 v3 v4 v5 = some (r, u') → BW p l e s m below meth c 7 159 [.ref (a 0), .int x1, .int x2] D (AM a) (some (.int r)) (wlM cc a u') 6 (wlM cc a u) 78 [(0, .ref (a 0)), (2, .int v2), (3, .int v3), (4, .int v4), (5, .int v5)] [] := by
    intro n
    induction n with
    | zero => intro u v2 v3 v4 v5 hF; cases hF
    | succ n ih =>
      intro u v2 v3 v4 v5 hF H locs ls hP hD hS hl
      unfold F_X7_ith_78 at hF
      refine lv_iload hx hb dX7_ith_78 (lv_at hl 4 rfl) ?_
      refine lv_iload_n hx hb dX7_ith_80 rfl (lv_at hl 1 rfl) ?_
      refine lv_icmp_gt (tgt := 150) hx hb dX7_ith_81 (by decide) (fun c17 => ?_) (fun c17 => ?_)
      · have hF := ite_t hF c17
        refine lv_iload hx hb dX7_ith_150 (lv_at hl 3 rfl) ?_
        obtain ⟨rfl, rfl⟩ := sp_eq hF
        exact retI S hr hlocks hP hD hS dX7_ith_152
      · have hF := ite_f hF c17
        refine lv_iconst (v := 0) hx hb dX7_ith_84 (by decide) ?_
        refine lv_istore (lv' := [(4, .int _), (0, .ref _), (2, .int _), (3, .int _), (5, .int _)]) hx hb dX7_ith_85 hl (by decide) rfl (fun ls hl => ?_)
        exact b87 _ ih _ _ _ _ _ _  hF H locs ls hP hD hS (lv_sub hl [1, 2, 3, 0, 4] rfl)
  unfold F_X7_ith at hF
  have b_main : BW p l e s m below meth c 7 159 [.ref (a 0), .int x1, .int x2] D (AM a) (some (.int r)) (wlM cc a u') 6 (wlM cc a u) 0 [(0, .ref (a 0)), (1, .int x1), (2, .int x2)] [] := by
    intro H locs ls hP hD hS hl
    refine lv_aload_n hx hb dX7_ith_0 rfl (lv_at hl 0 rfl) ?_
    refine lv_iload_n hx hb dX7_ith_1 rfl (lv_at hl 1 rfl) ?_
    obtain ⟨r19, u18, e20, hF⟩ := bdI_some hF
    refine MM.callVi (m_X7_isSet e20) k_X7_156 S emOK hEs hK ⟨by decide, by decide⟩ (va_recv hK hP rfl c_MO) rfl rfl hl.1 (Nat.le_of_ble_eq_true rfl) dX7_ith_2 ⟨Nat.le_refl _, Nat.le_refl _⟩ hP hD hS (fun H locs hP hD hS => ?_)
    refine lv_if_eq (tgt := 18) hx hb dX7_ith_5 (by decide) (fun c21 => ?_) (fun c21 => ?_)
    · have hF := ite_t hF c21
      exact b18 _  hF H locs ls hP hD hS (lv_sub hl [0] rfl)
    · have hF := ite_f hF c21
      refine lv_iload_n hx hb dX7_ith_8 rfl (lv_at hl 2 rfl) ?_
      refine lv_iconst (v := 0) hx hb dX7_ith_9 (by decide) ?_
      refine lv_bipush (v := 7) hx hb dX7_ith_10 (by decide) ?_
      obtain ⟨r23, u22, e24, hF⟩ := bdI_some hF
      refine MM.callSi (m_X7_in e24) k_X7_64 S emOK hEs hK ⟨by decide, by decide⟩ rfl rfl hl.1 (Nat.le_of_ble_eq_true rfl) dX7_ith_12 ⟨Nat.le_refl _, Nat.le_refl _⟩ hP hD hS (fun H locs hP hD hS => ?_)
      refine lv_if_ne (tgt := 25) hx hb dX7_ith_15 (by decide) (fun c25 => ?_) (fun c25 => ?_)
      · have hF := ite_f hF c25
        refine lv_iload_n hx hb dX7_ith_25 rfl (lv_at hl 1 rfl) ?_
        obtain ⟨r27, u26, e28, hF⟩ := bdI_some hF
        refine MM.callSi (m_X7_ones e28) k_X7_162 S emOK hEs hK ⟨by decide, by decide⟩ rfl rfl hl.1 (Nat.le_of_ble_eq_true rfl) dX7_ith_26 ⟨Nat.le_refl _, Nat.le_refl _⟩ hP hD hS (fun H locs hP hD hS => ?_)
        refine lv_bipush (v := 8) hx hb dX7_ith_29 (by decide) ?_
        refine lv_icmp_le (tgt := 41) hx hb dX7_ith_31 (by decide) (fun c29 => ?_) (fun c29 => ?_)
        · have hF := ite_t hF c29
          refine lv_aload_n hx hb dX7_ith_41 rfl (lv_at hl 0 rfl) ?_
          refine lv_iload_n hx hb dX7_ith_42 rfl (lv_at hl 1 rfl) ?_
          obtain ⟨u30, e32, hF⟩ := bdV_some hF
          refine MM.callVv (m_X7_findOrders e32) k_X7_175 S emOK hEs hK ⟨by decide, by decide⟩ (va_recv hK hP rfl c_MO) rfl rfl hl.1 (Nat.le_of_ble_eq_true rfl) dX7_ith_43 ⟨Nat.le_refl _, Nat.le_refl _⟩ hP hD hS (fun H locs hP hD hS => ?_)
          refine lv_aload_n hx hb dX7_ith_46 rfl (lv_at hl 0 rfl) ?_
          refine va_get_w S hK hP _ c_MO rfl igX7 6 (by decide) q885 rfl rfl dX7_ith_47 ?_
          refine lv_iload_n hx hb dX7_ith_50 rfl (lv_at hl 1 rfl) ?_
          obtain ⟨hin33, hF⟩ := gd_some hF
          refine mIald S hK hP ⟨rfl, by decide⟩ rfl hin33 dX7_ith_51 ?_
          refine lv_if_eq (tgt := 63) hx hb dX7_ith_52 (by decide) (fun c34 => ?_) (fun c34 => ?_)
          · have hF := ite_t hF c34
            exact b63 _  hF H locs ls hP hD hS (lv_sub hl [0] rfl)
          · have hF := ite_f hF c34
            refine lv_iload_n hx hb dX7_ith_55 rfl (lv_at hl 2 rfl) ?_
            refine lv_iload_n hx hb dX7_ith_56 rfl (lv_at hl 1 rfl) ?_
            obtain ⟨r36, u35, e37, hF⟩ := bdI_some hF
            refine MM.callSi (m_X7_ones e37) k_X7_162 S emOK hEs hK ⟨by decide, by decide⟩ rfl rfl hl.1 (Nat.le_of_ble_eq_true rfl) dX7_ith_57 ⟨Nat.le_refl _, Nat.le_refl _⟩ hP hD hS (fun H locs hP hD hS => ?_)
            refine lv_icmp_lt (tgt := 70) hx hb dX7_ith_60 (by decide) (fun c38 => ?_) (fun c38 => ?_)
            · have hF := ite_t hF c38
              refine lv_iload_n hx hb dX7_ith_70 rfl (lv_at hl 1 rfl) ?_
              refine lv_istore_n (lv' := [(3, .int _), (0, .ref _), (1, .int _), (2, .int _)]) hx hb dX7_ith_71 rfl hl (by decide) rfl (fun ls hl => ?_)
              refine lv_iconst (v := 0) hx hb dX7_ith_72 (by decide) ?_
              refine lv_istore (lv' := [(4, .int _), (3, .int _), (0, .ref _), (1, .int _), (2, .int _)]) hx hb dX7_ith_73 hl (by decide) rfl (fun ls hl => ?_)
              refine lv_iconst (v := 0) hx hb dX7_ith_75 (by decide) ?_
              refine lv_istore (lv' := [(5, .int _), (4, .int _), (3, .int _), (0, .ref _), (1, .int _), (2, .int _)]) hx hb dX7_ith_76 hl (by decide) rfl (fun ls hl => ?_)
              exact b78 _ _ _ _ _ _  hF H locs ls hP hD hS (lv_sub hl [3, 5, 2, 1, 0] rfl)
            · have hF := ite_f hF c38
              exact b63 _  hF H locs ls hP hD hS (lv_sub hl [0] rfl)
        · have hF := ite_f hF c29
          refine lv_aload_n hx hb dX7_ith_34 rfl (lv_at hl 0 rfl) ?_
          refine lv_ldc hx hb hown (hts _ q1150) dX7_ith_35 ?_
          obtain ⟨r40, u39, e41, hF⟩ := bdI_some hF
          refine MM.callVi (m_X7_finds e41) k_X7_94 S emOK hEs hK ⟨by decide, by decide⟩ (va_recv hK hP rfl c_MO) rfl rfl hl.1 (Nat.le_of_ble_eq_true rfl) dX7_ith_37 ⟨Nat.le_refl _, Nat.le_refl _⟩ hP hD hS (fun H locs hP hD hS => ?_)
          obtain ⟨rfl, rfl⟩ := sp_eq hF
          exact retI S hr hlocks hP hD hS dX7_ith_40
      · have hF := ite_t hF c25
        exact b18 _  hF H locs ls hP hD hS (lv_sub hl [0] rfl)
  have hl := lv_entry ([.ref (a 0), .int x1, .int x2]) (n := 6) (Nat.le_of_ble_eq_true rfl)
  rw [lg_entry_eq]
  generalize (lg_sl ([.ref (a 0), .int x1, .int x2]) ++ List.replicate (6 - (lg_sl ([.ref (a 0), .int x1, .int x2])).length) Slot.unset).toArray = ls at hl ⊢
  exact b_main _ _ _ hP hD hS hl

set_option maxRecDepth 100000 in
set_option maxHeartbeats 4000000 in
theorem m_X7_fitsSomewhere  {x1 : Int32} {x2 : Int32} {u u' : Mem} {r : Int32}  (hF : F_X7_fitsSomewhere  u x1 x2 = some (r, u')) : MR l D cc a yX7_fitsSomewhere cX7_fitsSomewhere 7 (some .boolean) 1 21 [.ref (a 0), .int x1, .int x2] u (some (.int r)) u' := by
  refine MM.ofW (by decide) (fun p e s m below meth c S hr hlocks hK hEs hP hD hS => ?_)
  have S : CallFix p m c cX7_fitsSomewhere 7 s _ gtbl RX7 := S
  obtain ⟨hx, hb, hml, hown, hts⟩ := id S
  have b166 : ∀  (u : Mem) (v4 : Int32) , F_X7_fitsSomewhere_166  u v4 = some (r, u') → BW p l e s m below meth c 1 21 [.ref (a 0), .int x1, .int x2] D (AM a) (some (.int r)) (wlM cc a u') 7 (wlM cc a u) 166 [(4, .int v4)] [] := by
    intro  u v4 hF H locs ls hP hD hS hl
    unfold F_X7_fitsSomewhere_166 at hF
    refine lv_iload hx hb dX7_fitsSomewhere_166 (lv_at hl 0 rfl) ?_
    obtain ⟨hz1, hF⟩ := gz_some hF
    obtain ⟨rfl, rfl⟩ := sp_eq hF
    exact retZ S hr hlocks hP hD hS hz1 dX7_fitsSomewhere_168
  have b152 : ∀ (k86 : Mem → Int32 → Int32 → Int32 → Int32 → Int32 → Option (Int32 × Mem)) (hk86 : ∀ (u : Mem) (v1 : Int32) (v3 : Int32) (v4 : Int32) (v5 : Int32) (v6 : Int32) , k86 u v1 v3 v4 v5 v6 = some (r, u') → BW p l e s m below meth c 1 21 [.ref (a 0), .int x1, .int x2] D (AM a) (some (.int r)) (wlM cc a u') 7 (wlM cc a u) 86 [(0, .ref (a 0)), (1, .int v1), (3, .int v3), (4, .int v4), (5, .int v5), (6, .int v6)] []) (u : Mem) (v1 : Int32) (v3 : Int32) (v5 : Int32) (v6 : Int32) (y0 : Int32) , F_X7_fitsSomewhere_152 k86 u v1 v3 v5 v6 y0 = some (r, u') → BW p l e s m below meth c 1 21 [.ref (a 0), .int x1, .int x2] D (AM a) (some (.int r)) (wlM cc a u') 7 (wlM cc a u) 152 [(0, .ref (a 0)), (1, .int v1), (3, .int v3), (5, .int v5), (6, .int v6)] [.int y0] := by
    intro k86 hk86 u v1 v3 v5 v6 y0 hF H locs ls hP hD hS hl
    unfold F_X7_fitsSomewhere_152 at hF
    refine lv_istore (lv' := [(4, .int _), (0, .ref _), (1, .int _), (3, .int _), (5, .int _), (6, .int _)]) hx hb dX7_fitsSomewhere_152 hl (by decide) rfl (fun ls hl => ?_)
    refine lv_inc1 (k := 5) (lv' := [(6, .int _), (4, .int _), (0, .ref _), (1, .int _), (3, .int _), (5, .int _)]) hx hb dX7_fitsSomewhere_154 hl rfl (by decide) rfl (fun ls hl => ?_)
    refine lv_goto (tgt := 86) hx hb dX7_fitsSomewhere_157 (by decide) ?_
    exact hk86 _ _ _ _ _ _  hF H locs ls hP hD hS (lv_sub hl [2, 3, 4, 1, 5, 0] rfl)
  have b147 : ∀ (k86 : Mem → Int32 → Int32 → Int32 → Int32 → Int32 → Option (Int32 × Mem)) (hk86 : ∀ (u : Mem) (v1 : Int32) (v3 : Int32) (v4 : Int32) (v5 : Int32) (v6 : Int32) , k86 u v1 v3 v4 v5 v6 = some (r, u') → BW p l e s m below meth c 1 21 [.ref (a 0), .int x1, .int x2] D (AM a) (some (.int r)) (wlM cc a u') 7 (wlM cc a u) 86 [(0, .ref (a 0)), (1, .int v1), (3, .int v3), (4, .int v4), (5, .int v5), (6, .int v6)] []) (u : Mem) (v1 : Int32) (v3 : Int32) (v5 : Int32) (v6 : Int32) , F_X7_fitsSomewhere_147 k86 u v1 v3 v5 v6 = some (r, u') → BW p l e s m below meth c 1 21 [.ref (a 0), .int x1, .int x2] D (AM a) (some (.int r)) (wlM cc a u') 7 (wlM cc a u) 147 [(0, .ref (a 0)), (1, .int v1), (3, .int v3), (5, .int v5), (6, .int v6)] [] := by
    intro k86 hk86 u v1 v3 v5 v6 hF H locs ls hP hD hS hl
    unfold F_X7_fitsSomewhere_147 at hF
    refine lv_iconst (v := 1) hx hb dX7_fitsSomewhere_147 (by decide) ?_
    refine lv_goto (tgt := 152) hx hb dX7_fitsSomewhere_148 (by decide) ?_
    exact b152 _ hk86 _ _ _ _ _ _  hF H locs ls hP hD hS (lv_sub hl [0, 1, 2, 3, 4] rfl)
  have b151 : ∀ (k86 : Mem → Int32 → Int32 → Int32 → Int32 → Int32 → Option (Int32 × Mem)) (hk86 : ∀ (u : Mem) (v1 : Int32) (v3 : Int32) (v4 : Int32) (v5 : Int32) (v6 : Int32) , k86 u v1 v3 v4 v5 v6 = some (r, u') → BW p l e s m below meth c 1 21 [.ref (a 0), .int x1, .int x2] D (AM a) (some (.int r)) (wlM cc a u') 7 (wlM cc a u) 86 [(0, .ref (a 0)), (1, .int v1), (3, .int v3), (4, .int v4), (5, .int v5), (6, .int v6)] []) (u : Mem) (v1 : Int32) (v3 : Int32) (v5 : Int32) (v6 : Int32) , F_X7_fitsSomewhere_151 k86 u v1 v3 v5 v6 = some (r, u') → BW p l e s m below meth c 1 21 [.ref (a 0), .int x1, .int x2] D (AM a) (some (.int r)) (wlM cc a u') 7 (wlM cc a u) 151 [(0, .ref (a 0)), (1, .int v1), (3, .int v3), (5, .int v5), (6, .int v6)] [] := by
    intro k86 hk86 u v1 v3 v5 v6 hF H locs ls hP hD hS hl
    unfold F_X7_fitsSomewhere_151 at hF
    refine lv_iconst (v := 0) hx hb dX7_fitsSomewhere_151 (by decide) ?_
    exact b152 _ hk86 _ _ _ _ _ _  hF H locs ls hP hD hS (lv_sub hl [0, 1, 2, 3, 4] rfl)
  have b86 : ∀ (k69 : Mem → Int32 → Int32 → Int32 → Int32 → Option (Int32 × Mem)) (hk69 : ∀ (u : Mem) (v1 : Int32) (v3 : Int32) (v4 : Int32) (v5 : Int32) , k69 u v1 v3 v4 v5 = some (r, u') → BW p l e s m below meth c 1 21 [.ref (a 0), .int x1, .int x2] D (AM a) (some (.int r)) (wlM cc a u') 7 (wlM cc a u) 69 [(0, .ref (a 0)), (1, .int v1), (3, .int v3), (4, .int v4), (5, .int v5)] []), ∀ (n : Nat) (u : Mem) (v1 : Int32) (v3 : Int32) (v4 : Int32) (v5 : Int32) (v6 : Int32) , F_X7_fitsSomewhere_86 k69 n u v1 v3 v4 v5 v6 = some (r, u') → BW p l e s m below meth c 1 21 [.ref (a 0), .int x1, .int x2] D (AM a) (some (.int r)) (wlM cc a u') 7 (wlM cc a u) 86 [(0, .ref (a 0)), (1, .int v1), (3, .int v3), (4, .int v4), (5, .int v5), (6, .int v6)] [] := by
    intro k69 hk69
    intro n
    induction n with
    | zero => intro u v1 v3 v4 v5 v6 hF; cases hF
    | succ n ih =>
      intro u v1 v3 v4 v5 v6 hF H locs ls hP hD hS hl
      unfold F_X7_fitsSomewhere_86 at hF
      refine lv_iload hx hb dX7_fitsSomewhere_86 (lv_at hl 5 rfl) ?_
      refine lv_iload_n hx hb dX7_fitsSomewhere_88 rfl (lv_at hl 2 rfl) ?_
      refine lv_icmp_ge (tgt := 160) hx hb dX7_fitsSomewhere_89 (by decide) (fun c2 => ?_) (fun c2 => ?_)
      · have hF := ite_t hF c2
        refine lv_inc1 (k := 4) (lv' := [(5, .int _), (0, .ref _), (1, .int _), (3, .int _), (4, .int _), (6, .int _)]) hx hb dX7_fitsSomewhere_160 hl rfl (by decide) rfl (fun ls hl => ?_)
        refine lv_goto (tgt := 69) hx hb dX7_fitsSomewhere_163 (by decide) ?_
        exact hk69 _ _ _ _ _  hF H locs ls hP hD hS (lv_sub hl [1, 2, 3, 4, 0] rfl)
      · have hF := ite_f hF c2
        refine lv_iload hx hb dX7_fitsSomewhere_92 (lv_at hl 3 rfl) ?_
        refine lv_if_eq (tgt := 151) hx hb dX7_fitsSomewhere_94 (by decide) (fun c3 => ?_) (fun c3 => ?_)
        · have hF := ite_t hF c3
          exact b151 _ ih _ _ _ _ _  hF H locs ls hP hD hS (lv_sub hl [0, 1, 2, 4, 5] rfl)
        · have hF := ite_f hF c3
          refine lv_iload hx hb dX7_fitsSomewhere_97 (lv_at hl 5 rfl) ?_
          refine lv_iload hx hb dX7_fitsSomewhere_99 (lv_at hl 4 rfl) ?_
          refine lv_icmp_ge (tgt := 127) hx hb dX7_fitsSomewhere_101 (by decide) (fun c4 => ?_) (fun c4 => ?_)
          · have hF := ite_t hF c4
            refine lv_aload_n hx hb dX7_fitsSomewhere_127 rfl (lv_at hl 0 rfl) ?_
            refine va_get_w S hK hP _ c_MO rfl igX7 3 (by decide) q882 rfl rfl dX7_fitsSomewhere_128 ?_
            refine lv_bipush (v := 12) hx hb dX7_fitsSomewhere_131 (by decide) ?_
            refine lv_iload_n hx hb dX7_fitsSomewhere_133 rfl (lv_at hl 1 rfl) ?_
            refine lv_imul hx hb dX7_fitsSomewhere_134 ?_
            refine lv_aload_n hx hb dX7_fitsSomewhere_135 rfl (lv_at hl 0 rfl) ?_
            refine va_get_w S hK hP _ c_MO rfl igX7 7 (by decide) q886 rfl rfl dX7_fitsSomewhere_136 ?_
            refine lv_iload hx hb dX7_fitsSomewhere_139 (lv_at hl 5 rfl) ?_
            obtain ⟨hin5, hF⟩ := gd_some hF
            refine mIald S hK hP ⟨rfl, by decide⟩ rfl hin5 dX7_fitsSomewhere_141 ?_
            refine lv_iadd hx hb dX7_fitsSomewhere_142 ?_
            obtain ⟨hin6, hF⟩ := gd_some hF
            refine mZald S hK hP ⟨rfl, by decide⟩ rfl hin6 dX7_fitsSomewhere_143 ?_
            refine lv_if_eq (tgt := 151) hx hb dX7_fitsSomewhere_144 (by decide) (fun c7 => ?_) (fun c7 => ?_)
            · have hF := ite_t hF c7
              exact b151 _ ih _ _ _ _ _  hF H locs ls hP hD hS (lv_sub hl [0, 1, 2, 4, 5] rfl)
            · have hF := ite_f hF c7
              exact b147 _ ih _ _ _ _ _  hF H locs ls hP hD hS (lv_sub hl [0, 1, 2, 4, 5] rfl)
          · have hF := ite_f hF c4
            refine lv_aload_n hx hb dX7_fitsSomewhere_104 rfl (lv_at hl 0 rfl) ?_
            refine va_get_w S hK hP _ c_MO rfl igX7 3 (by decide) q882 rfl rfl dX7_fitsSomewhere_105 ?_
            refine lv_bipush (v := 12) hx hb dX7_fitsSomewhere_108 (by decide) ?_
            refine lv_aload_n hx hb dX7_fitsSomewhere_110 rfl (lv_at hl 0 rfl) ?_
            refine va_get_w S hK hP _ c_MO rfl igX7 7 (by decide) q886 rfl rfl dX7_fitsSomewhere_111 ?_
            refine lv_iload hx hb dX7_fitsSomewhere_114 (lv_at hl 5 rfl) ?_
            obtain ⟨hin8, hF⟩ := gd_some hF
            refine mIald S hK hP ⟨rfl, by decide⟩ rfl hin8 dX7_fitsSomewhere_116 ?_
            refine lv_imul hx hb dX7_fitsSomewhere_117 ?_
            refine lv_iload_n hx hb dX7_fitsSomewhere_118 rfl (lv_at hl 1 rfl) ?_
            refine lv_iadd hx hb dX7_fitsSomewhere_119 ?_
            obtain ⟨hin9, hF⟩ := gd_some hF
            refine mZald S hK hP ⟨rfl, by decide⟩ rfl hin9 dX7_fitsSomewhere_120 ?_
            refine lv_if_eq (tgt := 151) hx hb dX7_fitsSomewhere_121 (by decide) (fun c10 => ?_) (fun c10 => ?_)
            · have hF := ite_t hF c10
              exact b151 _ ih _ _ _ _ _  hF H locs ls hP hD hS (lv_sub hl [0, 1, 2, 4, 5] rfl)
            · have hF := ite_f hF c10
              refine lv_goto (tgt := 147) hx hb dX7_fitsSomewhere_124 (by decide) ?_
              exact b147 _ ih _ _ _ _ _  hF H locs ls hP hD hS (lv_sub hl [0, 1, 2, 4, 5] rfl)
  have b69 : ∀ (n : Nat) (u : Mem) (v1 : Int32) (v3 : Int32) (v4 : Int32) (v5 : Int32) , F_X7_fitsSomewhere_69  n u v1 v3 v4 v5 = some (r, u') → BW p l e s m below meth c 1 21 [.ref (a 0), .int x1, .int x2] D (AM a) (some (.int r)) (wlM cc a u') 7 (wlM cc a u) 69 [(0, .ref (a 0)), (1, .int v1), (3, .int v3), (4, .int v4), (5, .int v5)] [] := by
    intro n
    induction n with
    | zero => intro u v1 v3 v4 v5 hF; cases hF
    | succ n ih =>
      intro u v1 v3 v4 v5 hF H locs ls hP hD hS hl
      unfold F_X7_fitsSomewhere_69 at hF
      refine lv_iload hx hb dX7_fitsSomewhere_69 (lv_at hl 4 rfl) ?_
      refine lv_iload_n hx hb dX7_fitsSomewhere_71 rfl (lv_at hl 2 rfl) ?_
      refine lv_icmp_gt (tgt := 166) hx hb dX7_fitsSomewhere_72 (by decide) (fun c11 => ?_) (fun c11 => ?_)
      · have hF := ite_t hF c11
        exact b166 _ _  hF H locs ls hP hD hS (lv_sub hl [3] rfl)
      · have hF := ite_f hF c11
        refine lv_iload hx hb dX7_fitsSomewhere_75 (lv_at hl 3 rfl) ?_
        refine lv_if_ne (tgt := 166) hx hb dX7_fitsSomewhere_77 (by decide) (fun c12 => ?_) (fun c12 => ?_)
        · have hF := ite_f hF c12
          exact b166 _ _  hF H locs ls hP hD hS (lv_sub hl [3] rfl)
        · have hF := ite_t hF c12
          refine lv_iconst (v := 1) hx hb dX7_fitsSomewhere_80 (by decide) ?_
          refine lv_istore (lv' := [(4, .int _), (0, .ref _), (1, .int _), (3, .int _), (5, .int _)]) hx hb dX7_fitsSomewhere_81 hl (by decide) rfl (fun ls hl => ?_)
          refine lv_iconst (v := 0) hx hb dX7_fitsSomewhere_83 (by decide) ?_
          refine lv_istore (lv' := [(6, .int _), (4, .int _), (0, .ref _), (1, .int _), (3, .int _), (5, .int _)]) hx hb dX7_fitsSomewhere_84 hl (by decide) rfl (fun ls hl => ?_)
          exact b86 _ ih _ _ _ _ _ _ _  hF H locs ls hP hD hS (lv_sub hl [2, 3, 4, 1, 5, 0] rfl)
  have b57 : ∀ (k5 : Mem → Int32 → Int32 → Int32 → Int32 → Option (Int32 × Mem)) (hk5 : ∀ (u : Mem) (v1 : Int32) (v2 : Int32) (v3 : Int32) (v4 : Int32) , k5 u v1 v2 v3 v4 = some (r, u') → BW p l e s m below meth c 1 21 [.ref (a 0), .int x1, .int x2] D (AM a) (some (.int r)) (wlM cc a u') 7 (wlM cc a u) 5 [(0, .ref (a 0)), (1, .int v1), (2, .int v2), (3, .int v3), (4, .int v4)] []) (u : Mem) (v1 : Int32) (v2 : Int32) (v3 : Int32) (v4 : Int32) , F_X7_fitsSomewhere_57 k5 u v1 v2 v3 v4 = some (r, u') → BW p l e s m below meth c 1 21 [.ref (a 0), .int x1, .int x2] D (AM a) (some (.int r)) (wlM cc a u') 7 (wlM cc a u) 57 [(0, .ref (a 0)), (1, .int v1), (2, .int v2), (3, .int v3), (4, .int v4)] [] := by
    intro k5 hk5 u v1 v2 v3 v4 hF H locs ls hP hD hS hl
    unfold F_X7_fitsSomewhere_57 at hF
    refine lv_inc1 (k := 4) (lv' := [(4, .int _), (0, .ref _), (1, .int _), (2, .int _), (3, .int _)]) hx hb dX7_fitsSomewhere_57 hl rfl (by decide) rfl (fun ls hl => ?_)
    refine lv_goto (tgt := 5) hx hb dX7_fitsSomewhere_60 (by decide) ?_
    exact hk5 _ _ _ _ _  hF H locs ls hP hD hS (lv_sub hl [1, 2, 3, 4, 0] rfl)
  have b5 : ∀ (n : Nat) (u : Mem) (v1 : Int32) (v2 : Int32) (v3 : Int32) (v4 : Int32) , F_X7_fitsSomewhere_5  n u v1 v2 v3 v4 = some (r, u') → BW p l e s m below meth c 1 21 [.ref (a 0), .int x1, .int x2] D (AM a) (some (.int r)) (wlM cc a u') 7 (wlM cc a u) 5 [(0, .ref (a 0)), (1, .int v1), (2, .int v2), (3, .int v3), (4, .int v4)] [] := by
    intro n
    induction n with
    | zero => intro u v1 v2 v3 v4 hF; cases hF
    | succ n ih =>
      intro u v1 v2 v3 v4 hF H locs ls hP hD hS hl
      unfold F_X7_fitsSomewhere_5 at hF
      refine lv_iload hx hb dX7_fitsSomewhere_5 (lv_at hl 4 rfl) ?_
      refine lv_aload_n hx hb dX7_fitsSomewhere_7 rfl (lv_at hl 0 rfl) ?_
      refine va_get_w S hK hP _ c_MO rfl igX7 0 (by decide) q879 rfl rfl dX7_fitsSomewhere_8 ?_
      refine lv_iconst (v := 0) hx hb dX7_fitsSomewhere_11 (by decide) ?_
      obtain ⟨hin13, hF⟩ := gd_some hF
      refine mIald S hK hP ⟨rfl, by decide⟩ rfl hin13 dX7_fitsSomewhere_12 ?_
      refine lv_icmp_ge (tgt := 63) hx hb dX7_fitsSomewhere_13 (by decide) (fun c14 => ?_) (fun c14 => ?_)
      · have hF := ite_t hF c14
        refine lv_iconst (v := 0) hx hb dX7_fitsSomewhere_63 (by decide) ?_
        refine lv_istore (lv' := [(4, .int _), (0, .ref _), (1, .int _), (2, .int _), (3, .int _)]) hx hb dX7_fitsSomewhere_64 hl (by decide) rfl (fun ls hl => ?_)
        refine lv_iconst (v := 0) hx hb dX7_fitsSomewhere_66 (by decide) ?_
        refine lv_istore (lv' := [(5, .int _), (4, .int _), (0, .ref _), (1, .int _), (2, .int _), (3, .int _)]) hx hb dX7_fitsSomewhere_67 hl (by decide) rfl (fun ls hl => ?_)
        exact b69 _ _ _ _ _ _  hF H locs ls hP hD hS (lv_sub hl [2, 3, 5, 1, 0] rfl)
      · have hF := ite_f hF c14
        refine lv_iload_n hx hb dX7_fitsSomewhere_16 rfl (lv_at hl 2 rfl) ?_
        refine lv_aload_n hx hb dX7_fitsSomewhere_17 rfl (lv_at hl 0 rfl) ?_
        refine va_get_w S hK hP _ c_MO rfl igX7 4 (by decide) q883 rfl rfl dX7_fitsSomewhere_18 ?_
        refine lv_iload hx hb dX7_fitsSomewhere_21 (lv_at hl 4 rfl) ?_
        obtain ⟨hin15, hF⟩ := gd_some hF
        refine mIald S hK hP ⟨rfl, by decide⟩ rfl hin15 dX7_fitsSomewhere_23 ?_
        obtain ⟨r17, u16, e18, hF⟩ := bdI_some hF
        refine MM.callSi (m_X7_has e18) k_X7_141 S emOK hEs hK ⟨by decide, by decide⟩ rfl rfl hl.1 (Nat.le_of_ble_eq_true rfl) dX7_fitsSomewhere_24 ⟨Nat.le_refl _, Nat.le_refl _⟩ hP hD hS (fun H locs hP hD hS => ?_)
        refine lv_if_eq (tgt := 57) hx hb dX7_fitsSomewhere_27 (by decide) (fun c19 => ?_) (fun c19 => ?_)
        · have hF := ite_t hF c19
          exact b57 _ ih _ _ _ _ _  hF H locs ls hP hD hS (lv_sub hl [0, 1, 2, 3, 4] rfl)
        · have hF := ite_f hF c19
          refine lv_aload_n hx hb dX7_fitsSomewhere_30 rfl (lv_at hl 0 rfl) ?_
          refine va_get_w S hK hP _ c_MO rfl igX7 4 (by decide) q883 rfl rfl dX7_fitsSomewhere_31 ?_
          refine lv_iload hx hb dX7_fitsSomewhere_34 (lv_at hl 4 rfl) ?_
          obtain ⟨hin20, hF⟩ := gd_some hF
          refine mIald S hK hP ⟨rfl, by decide⟩ rfl hin20 dX7_fitsSomewhere_36 ?_
          refine lv_iload_n hx hb dX7_fitsSomewhere_37 rfl (lv_at hl 1 rfl) ?_
          refine lv_icmp_eq (tgt := 57) hx hb dX7_fitsSomewhere_38 (by decide) (fun c21 => ?_) (fun c21 => ?_)
          · have hF := ite_t hF c21
            exact b57 _ ih _ _ _ _ _  hF H locs ls hP hD hS (lv_sub hl [0, 1, 2, 3, 4] rfl)
          · have hF := ite_f hF c21
            refine lv_aload_n hx hb dX7_fitsSomewhere_41 rfl (lv_at hl 0 rfl) ?_
            refine va_get_w S hK hP _ c_MO rfl igX7 7 (by decide) q886 rfl rfl dX7_fitsSomewhere_42 ?_
            refine lv_iload_n hx hb dX7_fitsSomewhere_45 rfl (lv_at hl 3 rfl) ?_
            refine lv_aload_n hx hb dX7_fitsSomewhere_46 rfl (lv_at hl 0 rfl) ?_
            refine va_get_w S hK hP _ c_MO rfl igX7 4 (by decide) q883 rfl rfl dX7_fitsSomewhere_47 ?_
            refine lv_iload hx hb dX7_fitsSomewhere_50 (lv_at hl 4 rfl) ?_
            obtain ⟨hin22, hF⟩ := gd_some hF
            refine mIald S hK hP ⟨rfl, by decide⟩ rfl hin22 dX7_fitsSomewhere_52 ?_
            obtain ⟨hin23, hF⟩ := gd_some hF
            refine mIast S hK hP hD hS ⟨rfl, by decide⟩ rfl hin23 dX7_fitsSomewhere_53 (fun H locs hP hD hS => ?_)
            refine lv_inc1 (k := 3) (lv' := [(3, .int _), (0, .ref _), (1, .int _), (2, .int _), (4, .int _)]) hx hb dX7_fitsSomewhere_54 hl rfl (by decide) rfl (fun ls hl => ?_)
            exact b57 _ ih _ _ _ _ _  hF H locs ls hP hD hS (lv_sub hl [1, 2, 3, 0, 4] rfl)
  unfold F_X7_fitsSomewhere at hF
  have b_main : BW p l e s m below meth c 1 21 [.ref (a 0), .int x1, .int x2] D (AM a) (some (.int r)) (wlM cc a u') 7 (wlM cc a u) 0 [(0, .ref (a 0)), (1, .int x1), (2, .int x2)] [] := by
    intro H locs ls hP hD hS hl
    refine lv_iconst (v := 0) hx hb dX7_fitsSomewhere_0 (by decide) ?_
    refine lv_istore_n (lv' := [(3, .int _), (0, .ref _), (1, .int _), (2, .int _)]) hx hb dX7_fitsSomewhere_1 rfl hl (by decide) rfl (fun ls hl => ?_)
    refine lv_iconst (v := 0) hx hb dX7_fitsSomewhere_2 (by decide) ?_
    refine lv_istore (lv' := [(4, .int _), (3, .int _), (0, .ref _), (1, .int _), (2, .int _)]) hx hb dX7_fitsSomewhere_3 hl (by decide) rfl (fun ls hl => ?_)
    exact b5 _ _ _ _ _ _  hF H locs ls hP hD hS (lv_sub hl [2, 3, 4, 1, 0] rfl)
  have hl := lv_entry ([.ref (a 0), .int x1, .int x2]) (n := 7) (Nat.le_of_ble_eq_true rfl)
  rw [lg_entry_eq]
  generalize (lg_sl ([.ref (a 0), .int x1, .int x2]) ++ List.replicate (7 - (lg_sl ([.ref (a 0), .int x1, .int x2])).length) Slot.unset).toArray = ls at hl ⊢
  exact b_main _ _ _ hP hD hS hl

set_option maxRecDepth 100000 in
set_option maxHeartbeats 4000000 in
theorem m_X7_falseDate  {x1 : Int32} {u u' : Mem} {r : Int32}  (hF : F_X7_falseDate  u x1 = some (r, u')) : MR l D cc a yX7_falseDate cX7_falseDate 3 (some .int) 7 157 [.ref (a 0), .int x1] u (some (.int r)) u' := by
  refine MM.ofW (by decide) (fun p e s m below meth c S hr hlocks hK hEs hP hD hS => ?_)
  have S : CallFix p m c cX7_falseDate 3 s _ gtbl RX7 := S
  obtain ⟨hx, hb, hml, hown, hts⟩ := id S
  have b105 : ∀  (u : Mem) (y0 : Int32) , F_X7_falseDate_105  u y0 = some (r, u') → BW p l e s m below meth c 7 157 [.ref (a 0), .int x1] D (AM a) (some (.int r)) (wlM cc a u') 3 (wlM cc a u) 105 [] [.int y0] := by
    intro  u y0 hF H locs ls hP hD hS hl
    unfold F_X7_falseDate_105 at hF
    obtain ⟨rfl, rfl⟩ := sp_eq hF
    exact retI S hr hlocks hP hD hS dX7_falseDate_105
  have b85 : ∀  (u : Mem) (v2 : Int32) , F_X7_falseDate_85  u v2 = some (r, u') → BW p l e s m below meth c 7 157 [.ref (a 0), .int x1] D (AM a) (some (.int r)) (wlM cc a u') 3 (wlM cc a u) 85 [(0, .ref (a 0)), (2, .int v2)] [] := by
    intro  u v2 hF H locs ls hP hD hS hl
    unfold F_X7_falseDate_85 at hF
    refine lv_iload_n hx hb dX7_falseDate_85 rfl (lv_at hl 1 rfl) ?_
    refine lv_aload_n hx hb dX7_falseDate_86 rfl (lv_at hl 0 rfl) ?_
    refine va_get_w S hK hP _ c_MO rfl igX7 0 (by decide) q879 rfl rfl dX7_falseDate_87 ?_
    refine lv_iconst (v := 0) hx hb dX7_falseDate_90 (by decide) ?_
    obtain ⟨hin1, hF⟩ := gd_some hF
    refine mIald S hK hP ⟨rfl, by decide⟩ rfl hin1 dX7_falseDate_91 ?_
    refine lv_icmp_ge (tgt := 99) hx hb dX7_falseDate_92 (by decide) (fun c2 => ?_) (fun c2 => ?_)
    · have hF := ite_t hF c2
      refine lv_aload_n hx hb dX7_falseDate_99 rfl (lv_at hl 0 rfl) ?_
      refine lv_ldc hx hb hown (hts _ q1079) dX7_falseDate_100 ?_
      obtain ⟨r4, u3, e5, hF⟩ := bdI_some hF
      refine MM.callVi (m_X7_finds e5) k_X7_94 S emOK hEs hK ⟨by decide, by decide⟩ (va_recv hK hP rfl c_MO) rfl rfl hl.1 (Nat.le_of_ble_eq_true rfl) dX7_falseDate_102 ⟨Nat.le_refl _, Nat.le_refl _⟩ hP hD hS (fun H locs hP hD hS => ?_)
      exact b105 _ _  hF H locs ls hP hD hS (lv_sub hl [] rfl)
    · have hF := ite_f hF c2
      refine lv_iload_n hx hb dX7_falseDate_95 rfl (lv_at hl 1 rfl) ?_
      refine lv_goto (tgt := 105) hx hb dX7_falseDate_96 (by decide) ?_
      exact b105 _ _  hF H locs ls hP hD hS (lv_sub hl [] rfl)
  have b79 : ∀ (k37 : Mem → Int32 → Int32 → Option (Int32 × Mem)) (hk37 : ∀ (u : Mem) (v1 : Int32) (v2 : Int32) , k37 u v1 v2 = some (r, u') → BW p l e s m below meth c 7 157 [.ref (a 0), .int x1] D (AM a) (some (.int r)) (wlM cc a u') 3 (wlM cc a u) 37 [(0, .ref (a 0)), (1, .int v1), (2, .int v2)] []) (u : Mem) (v1 : Int32) (v2 : Int32) , F_X7_falseDate_79 k37 u v1 v2 = some (r, u') → BW p l e s m below meth c 7 157 [.ref (a 0), .int x1] D (AM a) (some (.int r)) (wlM cc a u') 3 (wlM cc a u) 79 [(0, .ref (a 0)), (1, .int v1), (2, .int v2)] [] := by
    intro k37 hk37 u v1 v2 hF H locs ls hP hD hS hl
    unfold F_X7_falseDate_79 at hF
    refine lv_inc1 (k := 2) (lv' := [(2, .int _), (0, .ref _), (1, .int _)]) hx hb dX7_falseDate_79 hl rfl (by decide) rfl (fun ls hl => ?_)
    refine lv_goto (tgt := 37) hx hb dX7_falseDate_82 (by decide) ?_
    exact hk37 _ _ _  hF H locs ls hP hD hS (lv_sub hl [1, 2, 0] rfl)
  have b37 : ∀ (n : Nat) (u : Mem) (v1 : Int32) (v2 : Int32) , F_X7_falseDate_37  n u v1 v2 = some (r, u') → BW p l e s m below meth c 7 157 [.ref (a 0), .int x1] D (AM a) (some (.int r)) (wlM cc a u') 3 (wlM cc a u) 37 [(0, .ref (a 0)), (1, .int v1), (2, .int v2)] [] := by
    intro n
    induction n with
    | zero => intro u v1 v2 hF; cases hF
    | succ n ih =>
      intro u v1 v2 hF H locs ls hP hD hS hl
      unfold F_X7_falseDate_37 at hF
      refine lv_iload_n hx hb dX7_falseDate_37 rfl (lv_at hl 2 rfl) ?_
      refine lv_aload_n hx hb dX7_falseDate_38 rfl (lv_at hl 0 rfl) ?_
      refine va_get_w S hK hP _ c_MO rfl igX7 0 (by decide) q879 rfl rfl dX7_falseDate_39 ?_
      refine lv_iconst (v := 0) hx hb dX7_falseDate_42 (by decide) ?_
      obtain ⟨hin6, hF⟩ := gd_some hF
      refine mIald S hK hP ⟨rfl, by decide⟩ rfl hin6 dX7_falseDate_43 ?_
      refine lv_icmp_ge (tgt := 85) hx hb dX7_falseDate_44 (by decide) (fun c7 => ?_) (fun c7 => ?_)
      · have hF := ite_t hF c7
        exact b85 _ _  hF H locs ls hP hD hS (lv_sub hl [0, 2] rfl)
      · have hF := ite_f hF c7
        refine lv_iload_n hx hb dX7_falseDate_47 rfl (lv_at hl 1 rfl) ?_
        refine lv_iload_n hx hb dX7_falseDate_48 rfl (lv_at hl 2 rfl) ?_
        obtain ⟨r9, u8, e10, hF⟩ := bdI_some hF
        refine MM.callSi (m_X7_has e10) k_X7_141 S emOK hEs hK ⟨by decide, by decide⟩ rfl rfl hl.1 (Nat.le_of_ble_eq_true rfl) dX7_falseDate_49 ⟨Nat.le_refl _, Nat.le_refl _⟩ hP hD hS (fun H locs hP hD hS => ?_)
        refine lv_if_eq (tgt := 79) hx hb dX7_falseDate_52 (by decide) (fun c11 => ?_) (fun c11 => ?_)
        · have hF := ite_t hF c11
          exact b79 _ ih _ _ _  hF H locs ls hP hD hS (lv_sub hl [0, 1, 2] rfl)
        · have hF := ite_f hF c11
          refine lv_aload_n hx hb dX7_falseDate_55 rfl (lv_at hl 0 rfl) ?_
          refine va_get_w S hK hP _ c_MO rfl igX7 5 (by decide) q884 rfl rfl dX7_falseDate_56 ?_
          refine lv_iload_n hx hb dX7_falseDate_59 rfl (lv_at hl 1 rfl) ?_
          refine lv_iconst (v := 1) hx hb dX7_falseDate_60 (by decide) ?_
          refine lv_iload_n hx hb dX7_falseDate_61 rfl (lv_at hl 2 rfl) ?_
          refine lv_ishl hx hb dX7_falseDate_62 ?_
          refine lv_iconst (v := -1) hx hb dX7_falseDate_63 (by decide) ?_
          refine lv_ixor hx hb dX7_falseDate_64 ?_
          refine lv_iand hx hb dX7_falseDate_65 ?_
          obtain ⟨hin12, hF⟩ := gd_some hF
          refine mZald S hK hP ⟨rfl, by decide⟩ rfl hin12 dX7_falseDate_66 ?_
          refine lv_if_eq (tgt := 79) hx hb dX7_falseDate_67 (by decide) (fun c13 => ?_) (fun c13 => ?_)
          · have hF := ite_t hF c13
            exact b79 _ ih _ _ _  hF H locs ls hP hD hS (lv_sub hl [0, 1, 2] rfl)
          · have hF := ite_f hF c13
            refine lv_aload_n hx hb dX7_falseDate_70 rfl (lv_at hl 0 rfl) ?_
            refine lv_iload_n hx hb dX7_falseDate_71 rfl (lv_at hl 2 rfl) ?_
            refine lv_iload_n hx hb dX7_falseDate_72 rfl (lv_at hl 1 rfl) ?_
            obtain ⟨r15, u14, e16, hF⟩ := bdI_some hF
            refine MM.callVi (m_X7_fitsSomewhere e16) k_X7_179 S emOK hEs hK ⟨by decide, by decide⟩ (va_recv hK hP rfl c_MO) rfl rfl hl.1 (Nat.le_of_ble_eq_true rfl) dX7_falseDate_73 ⟨Nat.le_refl _, Nat.le_refl _⟩ hP hD hS (fun H locs hP hD hS => ?_)
            refine lv_if_ne (tgt := 85) hx hb dX7_falseDate_76 (by decide) (fun c17 => ?_) (fun c17 => ?_)
            · have hF := ite_f hF c17
              exact b85 _ _  hF H locs ls hP hD hS (lv_sub hl [0, 2] rfl)
            · have hF := ite_t hF c17
              exact b79 _ ih _ _ _  hF H locs ls hP hD hS (lv_sub hl [0, 1, 2] rfl)
  unfold F_X7_falseDate at hF
  have b_main : BW p l e s m below meth c 7 157 [.ref (a 0), .int x1] D (AM a) (some (.int r)) (wlM cc a u') 3 (wlM cc a u) 0 [(0, .ref (a 0)), (1, .int x1)] [] := by
    intro H locs ls hP hD hS hl
    refine lv_aload_n hx hb dX7_falseDate_0 rfl (lv_at hl 0 rfl) ?_
    refine lv_iload_n hx hb dX7_falseDate_1 rfl (lv_at hl 1 rfl) ?_
    obtain ⟨r19, u18, e20, hF⟩ := bdI_some hF
    refine MM.callVi (m_X7_isSet e20) k_X7_156 S emOK hEs hK ⟨by decide, by decide⟩ (va_recv hK hP rfl c_MO) rfl rfl hl.1 (Nat.le_of_ble_eq_true rfl) dX7_falseDate_2 ⟨Nat.le_refl _, Nat.le_refl _⟩ hP hD hS (fun H locs hP hD hS => ?_)
    refine lv_if_ne (tgt := 15) hx hb dX7_falseDate_5 (by decide) (fun c21 => ?_) (fun c21 => ?_)
    · have hF := ite_f hF c21
      refine lv_aload_n hx hb dX7_falseDate_15 rfl (lv_at hl 0 rfl) ?_
      obtain ⟨u22, e24, hF⟩ := bdV_some hF
      refine MM.callVv (m_X7_findRings e24) k_X7_159 S emOK hEs hK ⟨by decide, by decide⟩ (va_recv hK hP rfl c_MO) rfl rfl hl.1 (Nat.le_of_ble_eq_true rfl) dX7_falseDate_16 ⟨Nat.le_refl _, Nat.le_refl _⟩ hP hD hS (fun H locs hP hD hS => ?_)
      refine lv_aload_n hx hb dX7_falseDate_19 rfl (lv_at hl 0 rfl) ?_
      refine va_get_w S hK hP _ c_MO rfl igX7 5 (by decide) q884 rfl rfl dX7_falseDate_20 ?_
      refine lv_iload_n hx hb dX7_falseDate_23 rfl (lv_at hl 1 rfl) ?_
      obtain ⟨hin25, hF⟩ := gd_some hF
      refine mZald S hK hP ⟨rfl, by decide⟩ rfl hin25 dX7_falseDate_24 ?_
      refine lv_if_eq (tgt := 35) hx hb dX7_falseDate_25 (by decide) (fun c26 => ?_) (fun c26 => ?_)
      · have hF := ite_t hF c26
        refine lv_iconst (v := 0) hx hb dX7_falseDate_35 (by decide) ?_
        refine lv_istore_n (lv' := [(2, .int _), (0, .ref _), (1, .int _)]) hx hb dX7_falseDate_36 rfl hl (by decide) rfl (fun ls hl => ?_)
        exact b37 _ _ _ _  hF H locs ls hP hD hS (lv_sub hl [1, 2, 0] rfl)
      · have hF := ite_f hF c26
        refine lv_aload_n hx hb dX7_falseDate_28 rfl (lv_at hl 0 rfl) ?_
        refine lv_ldc hx hb hown (hts _ q1084) dX7_falseDate_29 ?_
        obtain ⟨r28, u27, e29, hF⟩ := bdI_some hF
        refine MM.callVi (m_X7_finds e29) k_X7_94 S emOK hEs hK ⟨by decide, by decide⟩ (va_recv hK hP rfl c_MO) rfl rfl hl.1 (Nat.le_of_ble_eq_true rfl) dX7_falseDate_31 ⟨Nat.le_refl _, Nat.le_refl _⟩ hP hD hS (fun H locs hP hD hS => ?_)
        obtain ⟨rfl, rfl⟩ := sp_eq hF
        exact retI S hr hlocks hP hD hS dX7_falseDate_34
    · have hF := ite_t hF c21
      refine lv_aload_n hx hb dX7_falseDate_8 rfl (lv_at hl 0 rfl) ?_
      refine lv_ldc hx hb hown (hts _ q966) dX7_falseDate_9 ?_
      obtain ⟨r31, u30, e32, hF⟩ := bdI_some hF
      refine MM.callVi (m_X7_finds e32) k_X7_94 S emOK hEs hK ⟨by decide, by decide⟩ (va_recv hK hP rfl c_MO) rfl rfl hl.1 (Nat.le_of_ble_eq_true rfl) dX7_falseDate_11 ⟨Nat.le_refl _, Nat.le_refl _⟩ hP hD hS (fun H locs hP hD hS => ?_)
      obtain ⟨rfl, rfl⟩ := sp_eq hF
      exact retI S hr hlocks hP hD hS dX7_falseDate_14
  have hl := lv_entry ([.ref (a 0), .int x1]) (n := 3) (Nat.le_of_ble_eq_true rfl)
  rw [lg_entry_eq]
  generalize (lg_sl ([.ref (a 0), .int x1]) ++ List.replicate (3 - (lg_sl ([.ref (a 0), .int x1])).length) Slot.unset).toArray = ls at hl ⊢
  exact b_main _ _ _ hP hD hS hl

set_option maxRecDepth 100000 in
set_option maxHeartbeats 4000000 in
theorem m_X7_had  {x1 : Int32} {x2 : Int32} {u u' : Mem} {r : Int64}  (hF : F_X7_had  u x1 x2 = some (r, u')) : MR l D cc a yX7_had cX7_had 7 (some .long) 6 134 [.ref (a 0), .int x1, .int x2] u (some (.long r)) u' := by
  refine MM.ofW (by decide) (fun p e s m below meth c S hr hlocks hK hEs hP hD hS => ?_)
  have S : CallFix p m c cX7_had 7 s _ gtbl RX7 := S
  obtain ⟨hx, hb, hml, hown, hts⟩ := id S
  have b19 : ∀  (u : Mem)  , F_X7_had_19  u  = some (r, u') → BW p l e s m below meth c 6 134 [.ref (a 0), .int x1, .int x2] D (AM a) (some (.long r)) (wlM cc a u') 7 (wlM cc a u) 19 [(0, .ref (a 0))] [] := by
    intro  u  hF H locs ls hP hD hS hl
    unfold F_X7_had_19 at hF
    refine lv_aload_n hx hb dX7_had_19 rfl (lv_at hl 0 rfl) ?_
    refine lv_ldc hx hb hown (hts _ q966) dX7_had_20 ?_
    obtain ⟨r2, u1, e3, hF⟩ := bdI_some hF
    refine MM.callVi (m_X7_finds e3) k_X7_94 S emOK hEs hK ⟨by decide, by decide⟩ (va_recv hK hP rfl c_MO) rfl rfl hl.1 (Nat.le_of_ble_eq_true rfl) dX7_had_22 ⟨Nat.le_refl _, Nat.le_refl _⟩ hP hD hS (fun H locs hP hD hS => ?_)
    refine lv_i2l hx hb dX7_had_25 rfl ?_
    obtain ⟨rfl, rfl⟩ := sp_eq hF
    exact retL S hr hlocks hP hD hS dX7_had_26
  have b105 : ∀ (k36 : Mem → Int32 → Int32 → Int64 → Int32 → Option (Int64 × Mem)) (hk36 : ∀ (u : Mem) (v1 : Int32) (v2 : Int32) (v3 : Int64) (v5 : Int32) , k36 u v1 v2 v3 v5 = some (r, u') → BW p l e s m below meth c 6 134 [.ref (a 0), .int x1, .int x2] D (AM a) (some (.long r)) (wlM cc a u') 7 (wlM cc a u) 36 [(0, .ref (a 0)), (1, .int v1), (2, .int v2), (3, .long v3), (5, .int v5)] []) (u : Mem) (v1 : Int32) (v2 : Int32) (v3 : Int64) (v5 : Int32) , F_X7_had_105 k36 u v1 v2 v3 v5 = some (r, u') → BW p l e s m below meth c 6 134 [.ref (a 0), .int x1, .int x2] D (AM a) (some (.long r)) (wlM cc a u') 7 (wlM cc a u) 105 [(0, .ref (a 0)), (1, .int v1), (2, .int v2), (3, .long v3), (5, .int v5)] [] := by
    intro k36 hk36 u v1 v2 v3 v5 hF H locs ls hP hD hS hl
    unfold F_X7_had_105 at hF
    refine lv_inc1 (k := 4) (lv' := [(5, .int _), (0, .ref _), (1, .int _), (2, .int _), (3, .long _)]) hx hb dX7_had_105 hl rfl (by decide) rfl (fun ls hl => ?_)
    refine lv_goto (tgt := 36) hx hb dX7_had_108 (by decide) ?_
    exact hk36 _ _ _ _ _  hF H locs ls hP hD hS (lv_sub hl [1, 2, 3, 4, 0] rfl)
  have b104 : ∀ (k36 : Mem → Int32 → Int32 → Int64 → Int32 → Option (Int64 × Mem)) (hk36 : ∀ (u : Mem) (v1 : Int32) (v2 : Int32) (v3 : Int64) (v5 : Int32) , k36 u v1 v2 v3 v5 = some (r, u') → BW p l e s m below meth c 6 134 [.ref (a 0), .int x1, .int x2] D (AM a) (some (.long r)) (wlM cc a u') 7 (wlM cc a u) 36 [(0, .ref (a 0)), (1, .int v1), (2, .int v2), (3, .long v3), (5, .int v5)] []) (u : Mem) (v1 : Int32) (v2 : Int32) (v5 : Int32) (y0 : Int64) , F_X7_had_104 k36 u v1 v2 v5 y0 = some (r, u') → BW p l e s m below meth c 6 134 [.ref (a 0), .int x1, .int x2] D (AM a) (some (.long r)) (wlM cc a u') 7 (wlM cc a u) 104 [(0, .ref (a 0)), (1, .int v1), (2, .int v2), (5, .int v5)] [.long y0] := by
    intro k36 hk36 u v1 v2 v5 y0 hF H locs ls hP hD hS hl
    unfold F_X7_had_104 at hF
    refine lv_lstore_n (lv' := [(3, .long _), (0, .ref _), (1, .int _), (2, .int _), (5, .int _)]) hx hb dX7_had_104 rfl hl (by decide) rfl (fun ls hl => ?_)
    exact b105 _ hk36 _ _ _ _ _  hF H locs ls hP hD hS (lv_sub hl [1, 2, 3, 0, 4] rfl)
  have b36 : ∀ (n : Nat) (u : Mem) (v1 : Int32) (v2 : Int32) (v3 : Int64) (v5 : Int32) , F_X7_had_36  n u v1 v2 v3 v5 = some (r, u') → BW p l e s m below meth c 6 134 [.ref (a 0), .int x1, .int x2] D (AM a) (some (.long r)) (wlM cc a u') 7 (wlM cc a u) 36 [(0, .ref (a 0)), (1, .int v1), (2, .int v2), (3, .long v3), (5, .int v5)] [] := by
    intro n
    induction n with
    | zero => intro u v1 v2 v3 v5 hF; cases hF
    | succ n ih =>
      intro u v1 v2 v3 v5 hF H locs ls hP hD hS hl
      unfold F_X7_had_36 at hF
      refine lv_iload hx hb dX7_had_36 (lv_at hl 4 rfl) ?_
      refine lv_aload_n hx hb dX7_had_38 rfl (lv_at hl 0 rfl) ?_
      refine va_get_w S hK hP _ c_MO rfl igX7 0 (by decide) q879 rfl rfl dX7_had_39 ?_
      refine lv_iconst (v := 0) hx hb dX7_had_42 (by decide) ?_
      obtain ⟨hin4, hF⟩ := gd_some hF
      refine mIald S hK hP ⟨rfl, by decide⟩ rfl hin4 dX7_had_43 ?_
      refine lv_icmp_ge (tgt := 111) hx hb dX7_had_44 (by decide) (fun c5 => ?_) (fun c5 => ?_)
      · have hF := ite_t hF c5
        refine lv_lload_n hx hb dX7_had_111 rfl (lv_at hl 3 rfl) ?_
        obtain ⟨rfl, rfl⟩ := sp_eq hF
        exact retL S hr hlocks hP hD hS dX7_had_112
      · have hF := ite_f hF c5
        refine lv_aload_n hx hb dX7_had_47 rfl (lv_at hl 0 rfl) ?_
        refine va_get_w S hK hP _ c_MO rfl igX7 4 (by decide) q883 rfl rfl dX7_had_48 ?_
        refine lv_iload hx hb dX7_had_51 (lv_at hl 4 rfl) ?_
        obtain ⟨hin6, hF⟩ := gd_some hF
        refine mIald S hK hP ⟨rfl, by decide⟩ rfl hin6 dX7_had_53 ?_
        refine lv_istore (lv' := [(6, .int _), (0, .ref _), (1, .int _), (2, .int _), (3, .long _), (5, .int _)]) hx hb dX7_had_54 hl (by decide) rfl (fun ls hl => ?_)
        refine lv_iload_n hx hb dX7_had_56 rfl (lv_at hl 2 rfl) ?_
        refine lv_iload hx hb dX7_had_57 (lv_at hl 0 rfl) ?_
        obtain ⟨r8, u7, e9, hF⟩ := bdI_some hF
        refine MM.callSi (m_X7_has e9) k_X7_141 S emOK hEs hK ⟨by decide, by decide⟩ rfl rfl hl.1 (Nat.le_of_ble_eq_true rfl) dX7_had_59 ⟨Nat.le_refl _, Nat.le_refl _⟩ hP hD hS (fun H locs hP hD hS => ?_)
        refine lv_if_eq (tgt := 105) hx hb dX7_had_62 (by decide) (fun c10 => ?_) (fun c10 => ?_)
        · have hF := ite_t hF c10
          exact b105 _ ih _ _ _ _ _  hF H locs ls hP hD hS (lv_sub hl [1, 2, 3, 4, 5] rfl)
        · have hF := ite_f hF c10
          refine lv_aload_n hx hb dX7_had_65 rfl (lv_at hl 1 rfl) ?_
          refine lv_iload hx hb dX7_had_66 (lv_at hl 0 rfl) ?_
          refine lv_iconst (v := 2) hx hb dX7_had_68 (by decide) ?_
          obtain ⟨r12, u11, e13, hF⟩ := bdI_some hF
          refine MM.callVi (m_X7_its e13) k_X7_68 S emOK hEs hK ⟨by decide, by decide⟩ (va_recv hK hP rfl c_MO) rfl rfl hl.1 (Nat.le_of_ble_eq_true rfl) dX7_had_69 ⟨Nat.le_refl _, Nat.le_refl _⟩ hP hD hS (fun H locs hP hD hS => ?_)
          refine lv_iload_n hx hb dX7_had_72 rfl (lv_at hl 3 rfl) ?_
          refine lv_icmp_gt (tgt := 105) hx hb dX7_had_73 (by decide) (fun c14 => ?_) (fun c14 => ?_)
          · have hF := ite_t hF c14
            exact b105 _ ih _ _ _ _ _  hF H locs ls hP hD hS (lv_sub hl [1, 2, 3, 4, 5] rfl)
          · have hF := ite_f hF c14
            refine lv_aload_n hx hb dX7_had_76 rfl (lv_at hl 1 rfl) ?_
            refine lv_iload hx hb dX7_had_77 (lv_at hl 0 rfl) ?_
            refine lv_iconst (v := 0) hx hb dX7_had_79 (by decide) ?_
            obtain ⟨r16, u15, e17, hF⟩ := bdI_some hF
            refine MM.callVi (m_X7_its e17) k_X7_68 S emOK hEs hK ⟨by decide, by decide⟩ (va_recv hK hP rfl c_MO) rfl rfl hl.1 (Nat.le_of_ble_eq_true rfl) dX7_had_80 ⟨Nat.le_refl _, Nat.le_refl _⟩ hP hD hS (fun H locs hP hD hS => ?_)
            refine lv_iconst (v := 4) hx hb dX7_had_83 (by decide) ?_
            refine lv_icmp_ne (tgt := 96) hx hb dX7_had_84 (by decide) (fun c18 => ?_) (fun c18 => ?_)
            · have hF := ite_f hF c18
              refine lv_lload_n hx hb dX7_had_96 rfl (lv_at hl 4 rfl) ?_
              refine lv_aload_n hx hb dX7_had_97 rfl (lv_at hl 1 rfl) ?_
              refine lv_iload hx hb dX7_had_98 (lv_at hl 0 rfl) ?_
              obtain ⟨r20, u19, e21, hF⟩ := bdL_some hF
              refine MM.callVl (m_X7_shows e21) k_X7_109 S emOK hEs hK ⟨by decide, by decide⟩ (va_recv hK hP rfl c_MO) rfl rfl hl.1 (Nat.le_of_ble_eq_true rfl) dX7_had_100 ⟨Nat.le_refl _, Nat.le_refl _⟩ hP hD hS (fun H locs hP hD hS => ?_)
              refine lv_lor hx hb dX7_had_103 ?_
              exact b104 _ ih _ _ _ _ _  hF H locs ls hP hD hS (lv_sub hl [1, 2, 3, 5] rfl)
            · have hF := ite_t hF c18
              refine lv_aload_n hx hb dX7_had_87 rfl (lv_at hl 1 rfl) ?_
              refine lv_iload hx hb dX7_had_88 (lv_at hl 0 rfl) ?_
              obtain ⟨r23, u22, e24, hF⟩ := bdL_some hF
              refine MM.callVl (m_X7_shows e24) k_X7_109 S emOK hEs hK ⟨by decide, by decide⟩ (va_recv hK hP rfl c_MO) rfl rfl hl.1 (Nat.le_of_ble_eq_true rfl) dX7_had_90 ⟨Nat.le_refl _, Nat.le_refl _⟩ hP hD hS (fun H locs hP hD hS => ?_)
              refine lv_goto (tgt := 104) hx hb dX7_had_93 (by decide) ?_
              exact b104 _ ih _ _ _ _ _  hF H locs ls hP hD hS (lv_sub hl [1, 2, 3, 5] rfl)
  unfold F_X7_had at hF
  have b_main : BW p l e s m below meth c 6 134 [.ref (a 0), .int x1, .int x2] D (AM a) (some (.long r)) (wlM cc a u') 7 (wlM cc a u) 0 [(0, .ref (a 0)), (1, .int x1), (2, .int x2)] [] := by
    intro H locs ls hP hD hS hl
    refine lv_aload_n hx hb dX7_had_0 rfl (lv_at hl 0 rfl) ?_
    refine lv_iload_n hx hb dX7_had_1 rfl (lv_at hl 1 rfl) ?_
    obtain ⟨r26, u25, e27, hF⟩ := bdI_some hF
    refine MM.callVi (m_X7_isSet e27) k_X7_156 S emOK hEs hK ⟨by decide, by decide⟩ (va_recv hK hP rfl c_MO) rfl rfl hl.1 (Nat.le_of_ble_eq_true rfl) dX7_had_2 ⟨Nat.le_refl _, Nat.le_refl _⟩ hP hD hS (fun H locs hP hD hS => ?_)
    refine lv_if_eq (tgt := 19) hx hb dX7_had_5 (by decide) (fun c28 => ?_) (fun c28 => ?_)
    · have hF := ite_t hF c28
      exact b19 _  hF H locs ls hP hD hS (lv_sub hl [0] rfl)
    · have hF := ite_f hF c28
      refine lv_iload_n hx hb dX7_had_8 rfl (lv_at hl 2 rfl) ?_
      refine lv_iconst (v := 0) hx hb dX7_had_9 (by decide) ?_
      refine lv_sipush (v := 2000) hx hb dX7_had_10 (by decide) ?_
      obtain ⟨r30, u29, e31, hF⟩ := bdI_some hF
      refine MM.callSi (m_X7_in e31) k_X7_64 S emOK hEs hK ⟨by decide, by decide⟩ rfl rfl hl.1 (Nat.le_of_ble_eq_true rfl) dX7_had_13 ⟨Nat.le_refl _, Nat.le_refl _⟩ hP hD hS (fun H locs hP hD hS => ?_)
      refine lv_if_ne (tgt := 27) hx hb dX7_had_16 (by decide) (fun c32 => ?_) (fun c32 => ?_)
      · have hF := ite_f hF c32
        refine lv_aload_n hx hb dX7_had_27 rfl (lv_at hl 0 rfl) ?_
        obtain ⟨u33, e35, hF⟩ := bdV_some hF
        refine MM.callVv (m_X7_findCan e35) k_X7_147 S emOK hEs hK ⟨by decide, by decide⟩ (va_recv hK hP rfl c_MO) rfl rfl hl.1 (Nat.le_of_ble_eq_true rfl) dX7_had_28 ⟨Nat.le_refl _, Nat.le_refl _⟩ hP hD hS (fun H locs hP hD hS => ?_)
        refine lv_lconst (v := 0) hx hb dX7_had_31 (by decide) ?_
        refine lv_lstore_n (lv' := [(3, .long _), (0, .ref _), (1, .int _), (2, .int _)]) hx hb dX7_had_32 rfl hl (by decide) rfl (fun ls hl => ?_)
        refine lv_iconst (v := 0) hx hb dX7_had_33 (by decide) ?_
        refine lv_istore (lv' := [(5, .int _), (3, .long _), (0, .ref _), (1, .int _), (2, .int _)]) hx hb dX7_had_34 hl (by decide) rfl (fun ls hl => ?_)
        exact b36 _ _ _ _ _ _  hF H locs ls hP hD hS (lv_sub hl [2, 3, 4, 1, 0] rfl)
      · have hF := ite_t hF c32
        exact b19 _  hF H locs ls hP hD hS (lv_sub hl [0] rfl)
  have hl := lv_entry ([.ref (a 0), .int x1, .int x2]) (n := 7) (Nat.le_of_ble_eq_true rfl)
  rw [lg_entry_eq]
  generalize (lg_sl ([.ref (a 0), .int x1, .int x2]) ++ List.replicate (7 - (lg_sl ([.ref (a 0), .int x1, .int x2])).length) Slot.unset).toArray = ls at hl ⊢
  exact b_main _ _ _ hP hD hS hl

set_option maxRecDepth 100000 in
set_option maxHeartbeats 4000000 in
theorem m_X7_hadNot  {x1 : Int32} {x2 : Int32} {u u' : Mem} {r : Int64}  (hF : F_X7_hadNot  u x1 x2 = some (r, u')) : MR l D cc a yX7_hadNot cX7_hadNot 8 (some .long) 6 134 [.ref (a 0), .int x1, .int x2] u (some (.long r)) u' := by
  refine MM.ofW (by decide) (fun p e s m below meth c S hr hlocks hK hEs hP hD hS => ?_)
  have S : CallFix p m c cX7_hadNot 8 s _ gtbl RX7 := S
  obtain ⟨hx, hb, hml, hown, hts⟩ := id S
  have b19 : ∀  (u : Mem)  , F_X7_hadNot_19  u  = some (r, u') → BW p l e s m below meth c 6 134 [.ref (a 0), .int x1, .int x2] D (AM a) (some (.long r)) (wlM cc a u') 8 (wlM cc a u) 19 [(0, .ref (a 0))] [] := by
    intro  u  hF H locs ls hP hD hS hl
    unfold F_X7_hadNot_19 at hF
    refine lv_aload_n hx hb dX7_hadNot_19 rfl (lv_at hl 0 rfl) ?_
    refine lv_ldc hx hb hown (hts _ q966) dX7_hadNot_20 ?_
    obtain ⟨r2, u1, e3, hF⟩ := bdI_some hF
    refine MM.callVi (m_X7_finds e3) k_X7_94 S emOK hEs hK ⟨by decide, by decide⟩ (va_recv hK hP rfl c_MO) rfl rfl hl.1 (Nat.le_of_ble_eq_true rfl) dX7_hadNot_22 ⟨Nat.le_refl _, Nat.le_refl _⟩ hP hD hS (fun H locs hP hD hS => ?_)
    refine lv_i2l hx hb dX7_hadNot_25 rfl ?_
    obtain ⟨rfl, rfl⟩ := sp_eq hF
    exact retL S hr hlocks hP hD hS dX7_hadNot_26
  have b146 : ∀ (k39 : Mem → Int32 → Int32 → Int64 → Int32 → Int32 → Option (Int64 × Mem)) (hk39 : ∀ (u : Mem) (v1 : Int32) (v2 : Int32) (v3 : Int64) (v5 : Int32) (v6 : Int32) , k39 u v1 v2 v3 v5 v6 = some (r, u') → BW p l e s m below meth c 6 134 [.ref (a 0), .int x1, .int x2] D (AM a) (some (.long r)) (wlM cc a u') 8 (wlM cc a u) 39 [(0, .ref (a 0)), (1, .int v1), (2, .int v2), (3, .long v3), (5, .int v5), (6, .int v6)] []) (u : Mem) (v1 : Int32) (v2 : Int32) (v3 : Int64) (v5 : Int32) (v6 : Int32) , F_X7_hadNot_146 k39 u v1 v2 v3 v5 v6 = some (r, u') → BW p l e s m below meth c 6 134 [.ref (a 0), .int x1, .int x2] D (AM a) (some (.long r)) (wlM cc a u') 8 (wlM cc a u) 146 [(0, .ref (a 0)), (1, .int v1), (2, .int v2), (3, .long v3), (5, .int v5), (6, .int v6)] [] := by
    intro k39 hk39 u v1 v2 v3 v5 v6 hF H locs ls hP hD hS hl
    unfold F_X7_hadNot_146 at hF
    refine lv_inc1 (k := 5) (lv' := [(6, .int _), (0, .ref _), (1, .int _), (2, .int _), (3, .long _), (5, .int _)]) hx hb dX7_hadNot_146 hl rfl (by decide) rfl (fun ls hl => ?_)
    refine lv_goto (tgt := 39) hx hb dX7_hadNot_149 (by decide) ?_
    exact hk39 _ _ _ _ _ _  hF H locs ls hP hD hS (lv_sub hl [1, 2, 3, 4, 5, 0] rfl)
  have b144 : ∀ (k39 : Mem → Int32 → Int32 → Int64 → Int32 → Int32 → Option (Int64 × Mem)) (hk39 : ∀ (u : Mem) (v1 : Int32) (v2 : Int32) (v3 : Int64) (v5 : Int32) (v6 : Int32) , k39 u v1 v2 v3 v5 v6 = some (r, u') → BW p l e s m below meth c 6 134 [.ref (a 0), .int x1, .int x2] D (AM a) (some (.long r)) (wlM cc a u') 8 (wlM cc a u) 39 [(0, .ref (a 0)), (1, .int v1), (2, .int v2), (3, .long v3), (5, .int v5), (6, .int v6)] []) (u : Mem) (v1 : Int32) (v2 : Int32) (v5 : Int32) (v6 : Int32) (y0 : Int64) (y1 : Int64) , F_X7_hadNot_144 k39 u v1 v2 v5 v6 y0 y1 = some (r, u') → BW p l e s m below meth c 6 134 [.ref (a 0), .int x1, .int x2] D (AM a) (some (.long r)) (wlM cc a u') 8 (wlM cc a u) 144 [(0, .ref (a 0)), (1, .int v1), (2, .int v2), (5, .int v5), (6, .int v6)] [.long y1, .long y0] := by
    intro k39 hk39 u v1 v2 v5 v6 y0 y1 hF H locs ls hP hD hS hl
    unfold F_X7_hadNot_144 at hF
    refine lv_lor hx hb dX7_hadNot_144 ?_
    refine lv_lstore_n (lv' := [(3, .long _), (0, .ref _), (1, .int _), (2, .int _), (5, .int _), (6, .int _)]) hx hb dX7_hadNot_145 rfl hl (by decide) rfl (fun ls hl => ?_)
    exact b146 _ hk39 _ _ _ _ _ _  hF H locs ls hP hD hS (lv_sub hl [1, 2, 3, 0, 4, 5] rfl)
  have b111 : ∀ (k39 : Mem → Int32 → Int32 → Int64 → Int32 → Int32 → Option (Int64 × Mem)) (hk39 : ∀ (u : Mem) (v1 : Int32) (v2 : Int32) (v3 : Int64) (v5 : Int32) (v6 : Int32) , k39 u v1 v2 v3 v5 v6 = some (r, u') → BW p l e s m below meth c 6 134 [.ref (a 0), .int x1, .int x2] D (AM a) (some (.long r)) (wlM cc a u') 8 (wlM cc a u) 39 [(0, .ref (a 0)), (1, .int v1), (2, .int v2), (3, .long v3), (5, .int v5), (6, .int v6)] []) (u : Mem) (v1 : Int32) (v2 : Int32) (v3 : Int64) (v6 : Int32) (v7 : Int32) (y0 : Int32) , F_X7_hadNot_111 k39 u v1 v2 v3 v6 v7 y0 = some (r, u') → BW p l e s m below meth c 6 134 [.ref (a 0), .int x1, .int x2] D (AM a) (some (.long r)) (wlM cc a u') 8 (wlM cc a u) 111 [(0, .ref (a 0)), (1, .int v1), (2, .int v2), (3, .long v3), (6, .int v6), (7, .int v7)] [.int y0] := by
    intro k39 hk39 u v1 v2 v3 v6 v7 y0 hF H locs ls hP hD hS hl
    unfold F_X7_hadNot_111 at hF
    refine lv_istore (lv' := [(5, .int _), (0, .ref _), (1, .int _), (2, .int _), (3, .long _), (6, .int _), (7, .int _)]) hx hb dX7_hadNot_111 hl (by decide) rfl (fun ls hl => ?_)
    refine lv_lload_n hx hb dX7_hadNot_113 rfl (lv_at hl 4 rfl) ?_
    refine lv_iload hx hb dX7_hadNot_114 (lv_at hl 0 rfl) ?_
    refine lv_if_eq (tgt := 143) hx hb dX7_hadNot_116 (by decide) (fun c4 => ?_) (fun c4 => ?_)
    · have hF := ite_t hF c4
      refine lv_lconst (v := 0) hx hb dX7_hadNot_143 (by decide) ?_
      exact b144 _ hk39 _ _ _ _ _ _ _  hF H locs ls hP hD hS (lv_sub hl [1, 2, 3, 0, 5] rfl)
    · have hF := ite_f hF c4
      refine lv_ldc2 hx hb hown (hts _ q976) dX7_hadNot_119 ?_
      refine lv_aload_n hx hb dX7_hadNot_122 rfl (lv_at hl 1 rfl) ?_
      refine lv_iload hx hb dX7_hadNot_123 (lv_at hl 6 rfl) ?_
      obtain ⟨r6, u5, e7, hF⟩ := bdL_some hF
      refine MM.callVl (m_X7_shows e7) k_X7_109 S emOK hEs hK ⟨by decide, by decide⟩ (va_recv hK hP rfl c_MO) rfl rfl hl.1 (Nat.le_of_ble_eq_true rfl) dX7_hadNot_125 ⟨Nat.le_refl _, Nat.le_refl _⟩ hP hD hS (fun H locs hP hD hS => ?_)
      refine lv_aload_n hx hb dX7_hadNot_128 rfl (lv_at hl 1 rfl) ?_
      refine lv_iload hx hb dX7_hadNot_129 (lv_at hl 6 rfl) ?_
      obtain ⟨r9, u8, e10, hF⟩ := bdL_some hF
      refine MM.callVl (m_X7_hides e10) k_X7_78 S emOK hEs hK ⟨by decide, by decide⟩ (va_recv hK hP rfl c_MO) rfl rfl hl.1 (Nat.le_of_ble_eq_true rfl) dX7_hadNot_131 ⟨Nat.le_refl _, Nat.le_refl _⟩ hP hD hS (fun H locs hP hD hS => ?_)
      refine lv_lor hx hb dX7_hadNot_134 ?_
      refine lv_ldc2 hx hb hown (hts _ q1008) dX7_hadNot_135 ?_
      refine lv_lxor hx hb dX7_hadNot_138 ?_
      refine lv_land hx hb dX7_hadNot_139 ?_
      refine lv_goto (tgt := 144) hx hb dX7_hadNot_140 (by decide) ?_
      exact b144 _ hk39 _ _ _ _ _ _ _  hF H locs ls hP hD hS (lv_sub hl [1, 2, 3, 0, 5] rfl)
  have b106 : ∀ (k39 : Mem → Int32 → Int32 → Int64 → Int32 → Int32 → Option (Int64 × Mem)) (hk39 : ∀ (u : Mem) (v1 : Int32) (v2 : Int32) (v3 : Int64) (v5 : Int32) (v6 : Int32) , k39 u v1 v2 v3 v5 v6 = some (r, u') → BW p l e s m below meth c 6 134 [.ref (a 0), .int x1, .int x2] D (AM a) (some (.long r)) (wlM cc a u') 8 (wlM cc a u) 39 [(0, .ref (a 0)), (1, .int v1), (2, .int v2), (3, .long v3), (5, .int v5), (6, .int v6)] []) (u : Mem) (v1 : Int32) (v2 : Int32) (v3 : Int64) (v6 : Int32) (v7 : Int32) , F_X7_hadNot_106 k39 u v1 v2 v3 v6 v7 = some (r, u') → BW p l e s m below meth c 6 134 [.ref (a 0), .int x1, .int x2] D (AM a) (some (.long r)) (wlM cc a u') 8 (wlM cc a u) 106 [(0, .ref (a 0)), (1, .int v1), (2, .int v2), (3, .long v3), (6, .int v6), (7, .int v7)] [] := by
    intro k39 hk39 u v1 v2 v3 v6 v7 hF H locs ls hP hD hS hl
    unfold F_X7_hadNot_106 at hF
    refine lv_iconst (v := 1) hx hb dX7_hadNot_106 (by decide) ?_
    refine lv_goto (tgt := 111) hx hb dX7_hadNot_107 (by decide) ?_
    exact b111 _ hk39 _ _ _ _ _ _ _  hF H locs ls hP hD hS (lv_sub hl [0, 1, 2, 3, 4, 5] rfl)
  have b110 : ∀ (k39 : Mem → Int32 → Int32 → Int64 → Int32 → Int32 → Option (Int64 × Mem)) (hk39 : ∀ (u : Mem) (v1 : Int32) (v2 : Int32) (v3 : Int64) (v5 : Int32) (v6 : Int32) , k39 u v1 v2 v3 v5 v6 = some (r, u') → BW p l e s m below meth c 6 134 [.ref (a 0), .int x1, .int x2] D (AM a) (some (.long r)) (wlM cc a u') 8 (wlM cc a u) 39 [(0, .ref (a 0)), (1, .int v1), (2, .int v2), (3, .long v3), (5, .int v5), (6, .int v6)] []) (u : Mem) (v1 : Int32) (v2 : Int32) (v3 : Int64) (v6 : Int32) (v7 : Int32) , F_X7_hadNot_110 k39 u v1 v2 v3 v6 v7 = some (r, u') → BW p l e s m below meth c 6 134 [.ref (a 0), .int x1, .int x2] D (AM a) (some (.long r)) (wlM cc a u') 8 (wlM cc a u) 110 [(0, .ref (a 0)), (1, .int v1), (2, .int v2), (3, .long v3), (6, .int v6), (7, .int v7)] [] := by
    intro k39 hk39 u v1 v2 v3 v6 v7 hF H locs ls hP hD hS hl
    unfold F_X7_hadNot_110 at hF
    refine lv_iconst (v := 0) hx hb dX7_hadNot_110 (by decide) ?_
    exact b111 _ hk39 _ _ _ _ _ _ _  hF H locs ls hP hD hS (lv_sub hl [0, 1, 2, 3, 4, 5] rfl)
  have b39 : ∀ (n : Nat) (u : Mem) (v1 : Int32) (v2 : Int32) (v3 : Int64) (v5 : Int32) (v6 : Int32) , F_X7_hadNot_39  n u v1 v2 v3 v5 v6 = some (r, u') → BW p l e s m below meth c 6 134 [.ref (a 0), .int x1, .int x2] D (AM a) (some (.long r)) (wlM cc a u') 8 (wlM cc a u) 39 [(0, .ref (a 0)), (1, .int v1), (2, .int v2), (3, .long v3), (5, .int v5), (6, .int v6)] [] := by
    intro n
    induction n with
    | zero => intro u v1 v2 v3 v5 v6 hF; cases hF
    | succ n ih =>
      intro u v1 v2 v3 v5 v6 hF H locs ls hP hD hS hl
      unfold F_X7_hadNot_39 at hF
      refine lv_iload hx hb dX7_hadNot_39 (lv_at hl 5 rfl) ?_
      refine lv_aload_n hx hb dX7_hadNot_41 rfl (lv_at hl 0 rfl) ?_
      refine va_get_w S hK hP _ c_MO rfl igX7 0 (by decide) q879 rfl rfl dX7_hadNot_42 ?_
      refine lv_iconst (v := 0) hx hb dX7_hadNot_45 (by decide) ?_
      obtain ⟨hin11, hF⟩ := gd_some hF
      refine mIald S hK hP ⟨rfl, by decide⟩ rfl hin11 dX7_hadNot_46 ?_
      refine lv_icmp_ge (tgt := 152) hx hb dX7_hadNot_47 (by decide) (fun c12 => ?_) (fun c12 => ?_)
      · have hF := ite_t hF c12
        refine lv_lload_n hx hb dX7_hadNot_152 rfl (lv_at hl 3 rfl) ?_
        obtain ⟨rfl, rfl⟩ := sp_eq hF
        exact retL S hr hlocks hP hD hS dX7_hadNot_153
      · have hF := ite_f hF c12
        refine lv_aload_n hx hb dX7_hadNot_50 rfl (lv_at hl 0 rfl) ?_
        refine va_get_w S hK hP _ c_MO rfl igX7 4 (by decide) q883 rfl rfl dX7_hadNot_51 ?_
        refine lv_iload hx hb dX7_hadNot_54 (lv_at hl 5 rfl) ?_
        obtain ⟨hin13, hF⟩ := gd_some hF
        refine mIald S hK hP ⟨rfl, by decide⟩ rfl hin13 dX7_hadNot_56 ?_
        refine lv_istore (lv' := [(7, .int _), (0, .ref _), (1, .int _), (2, .int _), (3, .long _), (5, .int _), (6, .int _)]) hx hb dX7_hadNot_57 hl (by decide) rfl (fun ls hl => ?_)
        refine lv_iload_n hx hb dX7_hadNot_59 rfl (lv_at hl 2 rfl) ?_
        refine lv_iload hx hb dX7_hadNot_60 (lv_at hl 0 rfl) ?_
        obtain ⟨r15, u14, e16, hF⟩ := bdI_some hF
        refine MM.callSi (m_X7_has e16) k_X7_141 S emOK hEs hK ⟨by decide, by decide⟩ rfl rfl hl.1 (Nat.le_of_ble_eq_true rfl) dX7_hadNot_62 ⟨Nat.le_refl _, Nat.le_refl _⟩ hP hD hS (fun H locs hP hD hS => ?_)
        refine lv_if_eq (tgt := 146) hx hb dX7_hadNot_65 (by decide) (fun c17 => ?_) (fun c17 => ?_)
        · have hF := ite_t hF c17
          exact b146 _ ih _ _ _ _ _ _  hF H locs ls hP hD hS (lv_sub hl [1, 2, 3, 4, 5, 6] rfl)
        · have hF := ite_f hF c17
          refine lv_aload_n hx hb dX7_hadNot_68 rfl (lv_at hl 1 rfl) ?_
          refine lv_iload hx hb dX7_hadNot_69 (lv_at hl 0 rfl) ?_
          refine lv_iconst (v := 2) hx hb dX7_hadNot_71 (by decide) ?_
          obtain ⟨r19, u18, e20, hF⟩ := bdI_some hF
          refine MM.callVi (m_X7_its e20) k_X7_68 S emOK hEs hK ⟨by decide, by decide⟩ (va_recv hK hP rfl c_MO) rfl rfl hl.1 (Nat.le_of_ble_eq_true rfl) dX7_hadNot_72 ⟨Nat.le_refl _, Nat.le_refl _⟩ hP hD hS (fun H locs hP hD hS => ?_)
          refine lv_iload_n hx hb dX7_hadNot_75 rfl (lv_at hl 3 rfl) ?_
          refine lv_icmp_lt (tgt := 146) hx hb dX7_hadNot_76 (by decide) (fun c21 => ?_) (fun c21 => ?_)
          · have hF := ite_t hF c21
            exact b146 _ ih _ _ _ _ _ _  hF H locs ls hP hD hS (lv_sub hl [1, 2, 3, 4, 5, 6] rfl)
          · have hF := ite_f hF c21
            refine lv_iload hx hb dX7_hadNot_79 (lv_at hl 5 rfl) ?_
            refine lv_if_eq (tgt := 110) hx hb dX7_hadNot_81 (by decide) (fun c22 => ?_) (fun c22 => ?_)
            · have hF := ite_t hF c22
              exact b110 _ ih _ _ _ _ _ _  hF H locs ls hP hD hS (lv_sub hl [1, 2, 3, 4, 6, 0] rfl)
            · have hF := ite_f hF c22
              refine lv_aload_n hx hb dX7_hadNot_84 rfl (lv_at hl 1 rfl) ?_
              refine lv_iload hx hb dX7_hadNot_85 (lv_at hl 0 rfl) ?_
              refine lv_iconst (v := 0) hx hb dX7_hadNot_87 (by decide) ?_
              obtain ⟨r24, u23, e25, hF⟩ := bdI_some hF
              refine MM.callVi (m_X7_its e25) k_X7_68 S emOK hEs hK ⟨by decide, by decide⟩ (va_recv hK hP rfl c_MO) rfl rfl hl.1 (Nat.le_of_ble_eq_true rfl) dX7_hadNot_88 ⟨Nat.le_refl _, Nat.le_refl _⟩ hP hD hS (fun H locs hP hD hS => ?_)
              refine lv_iconst (v := 4) hx hb dX7_hadNot_91 (by decide) ?_
              refine lv_icmp_ne (tgt := 106) hx hb dX7_hadNot_92 (by decide) (fun c26 => ?_) (fun c26 => ?_)
              · have hF := ite_f hF c26
                exact b106 _ ih _ _ _ _ _ _  hF H locs ls hP hD hS (lv_sub hl [1, 2, 3, 4, 6, 0] rfl)
              · have hF := ite_t hF c26
                refine lv_aload_n hx hb dX7_hadNot_95 rfl (lv_at hl 1 rfl) ?_
                refine lv_iload hx hb dX7_hadNot_96 (lv_at hl 0 rfl) ?_
                refine lv_iconst (v := 2) hx hb dX7_hadNot_98 (by decide) ?_
                obtain ⟨r28, u27, e29, hF⟩ := bdI_some hF
                refine MM.callVi (m_X7_its e29) k_X7_68 S emOK hEs hK ⟨by decide, by decide⟩ (va_recv hK hP rfl c_MO) rfl rfl hl.1 (Nat.le_of_ble_eq_true rfl) dX7_hadNot_99 ⟨Nat.le_refl _, Nat.le_refl _⟩ hP hD hS (fun H locs hP hD hS => ?_)
                refine lv_iload_n hx hb dX7_hadNot_102 rfl (lv_at hl 3 rfl) ?_
                refine lv_icmp_ne (tgt := 110) hx hb dX7_hadNot_103 (by decide) (fun c30 => ?_) (fun c30 => ?_)
                · have hF := ite_f hF c30
                  exact b110 _ ih _ _ _ _ _ _  hF H locs ls hP hD hS (lv_sub hl [1, 2, 3, 4, 6, 0] rfl)
                · have hF := ite_t hF c30
                  exact b106 _ ih _ _ _ _ _ _  hF H locs ls hP hD hS (lv_sub hl [1, 2, 3, 4, 6, 0] rfl)
  unfold F_X7_hadNot at hF
  have b_main : BW p l e s m below meth c 6 134 [.ref (a 0), .int x1, .int x2] D (AM a) (some (.long r)) (wlM cc a u') 8 (wlM cc a u) 0 [(0, .ref (a 0)), (1, .int x1), (2, .int x2)] [] := by
    intro H locs ls hP hD hS hl
    refine lv_aload_n hx hb dX7_hadNot_0 rfl (lv_at hl 0 rfl) ?_
    refine lv_iload_n hx hb dX7_hadNot_1 rfl (lv_at hl 1 rfl) ?_
    obtain ⟨r32, u31, e33, hF⟩ := bdI_some hF
    refine MM.callVi (m_X7_isSet e33) k_X7_156 S emOK hEs hK ⟨by decide, by decide⟩ (va_recv hK hP rfl c_MO) rfl rfl hl.1 (Nat.le_of_ble_eq_true rfl) dX7_hadNot_2 ⟨Nat.le_refl _, Nat.le_refl _⟩ hP hD hS (fun H locs hP hD hS => ?_)
    refine lv_if_eq (tgt := 19) hx hb dX7_hadNot_5 (by decide) (fun c34 => ?_) (fun c34 => ?_)
    · have hF := ite_t hF c34
      exact b19 _  hF H locs ls hP hD hS (lv_sub hl [0] rfl)
    · have hF := ite_f hF c34
      refine lv_iload_n hx hb dX7_hadNot_8 rfl (lv_at hl 2 rfl) ?_
      refine lv_iconst (v := 0) hx hb dX7_hadNot_9 (by decide) ?_
      refine lv_sipush (v := 2000) hx hb dX7_hadNot_10 (by decide) ?_
      obtain ⟨r36, u35, e37, hF⟩ := bdI_some hF
      refine MM.callSi (m_X7_in e37) k_X7_64 S emOK hEs hK ⟨by decide, by decide⟩ rfl rfl hl.1 (Nat.le_of_ble_eq_true rfl) dX7_hadNot_13 ⟨Nat.le_refl _, Nat.le_refl _⟩ hP hD hS (fun H locs hP hD hS => ?_)
      refine lv_if_ne (tgt := 27) hx hb dX7_hadNot_16 (by decide) (fun c38 => ?_) (fun c38 => ?_)
      · have hF := ite_f hF c38
        refine lv_aload_n hx hb dX7_hadNot_27 rfl (lv_at hl 0 rfl) ?_
        obtain ⟨u39, e41, hF⟩ := bdV_some hF
        refine MM.callVv (m_X7_findCan e41) k_X7_147 S emOK hEs hK ⟨by decide, by decide⟩ (va_recv hK hP rfl c_MO) rfl rfl hl.1 (Nat.le_of_ble_eq_true rfl) dX7_hadNot_28 ⟨Nat.le_refl _, Nat.le_refl _⟩ hP hD hS (fun H locs hP hD hS => ?_)
        refine lv_lconst (v := 0) hx hb dX7_hadNot_31 (by decide) ?_
        refine lv_lstore_n (lv' := [(3, .long _), (0, .ref _), (1, .int _), (2, .int _)]) hx hb dX7_hadNot_32 rfl hl (by decide) rfl (fun ls hl => ?_)
        refine lv_iconst (v := 1) hx hb dX7_hadNot_33 (by decide) ?_
        refine lv_istore (lv' := [(5, .int _), (3, .long _), (0, .ref _), (1, .int _), (2, .int _)]) hx hb dX7_hadNot_34 hl (by decide) rfl (fun ls hl => ?_)
        refine lv_iconst (v := 0) hx hb dX7_hadNot_36 (by decide) ?_
        refine lv_istore (lv' := [(6, .int _), (5, .int _), (3, .long _), (0, .ref _), (1, .int _), (2, .int _)]) hx hb dX7_hadNot_37 hl (by decide) rfl (fun ls hl => ?_)
        exact b39 _ _ _ _ _ _ _  hF H locs ls hP hD hS (lv_sub hl [3, 4, 5, 2, 1, 0] rfl)
      · have hF := ite_t hF c38
        exact b19 _  hF H locs ls hP hD hS (lv_sub hl [0] rfl)
  have hl := lv_entry ([.ref (a 0), .int x1, .int x2]) (n := 8) (Nat.le_of_ble_eq_true rfl)
  rw [lg_entry_eq]
  generalize (lg_sl ([.ref (a 0), .int x1, .int x2]) ++ List.replicate (8 - (lg_sl ([.ref (a 0), .int x1, .int x2])).length) Slot.unset).toArray = ls at hl ⊢
  exact b_main _ _ _ hP hD hS hl

set_option maxRecDepth 100000 in
set_option maxHeartbeats 4000000 in
theorem m_X7_isCast  {x1 : Int32} {u u' : Mem} {r : Int32}  (hF : F_X7_isCast  u x1 = some (r, u')) : MR l D cc a yX7_isCast cX7_isCast 2 (some .boolean) 1 22 [.ref (a 0), .int x1] u (some (.int r)) u' := by
  refine MM.ofW (by decide) (fun p e s m below meth c S hr hlocks hK hEs hP hD hS => ?_)
  have S : CallFix p m c cX7_isCast 2 s _ gtbl RX7 := S
  obtain ⟨hx, hb, hml, hown, hts⟩ := id S
  unfold F_X7_isCast at hF
  have b_main : BW p l e s m below meth c 1 22 [.ref (a 0), .int x1] D (AM a) (some (.int r)) (wlM cc a u') 2 (wlM cc a u) 0 [(0, .ref (a 0)), (1, .int x1)] [] := by
    intro H locs ls hP hD hS hl
    refine lv_aload_n hx hb dX7_isCast_0 rfl (lv_at hl 0 rfl) ?_
    refine lv_iload_n hx hb dX7_isCast_1 rfl (lv_at hl 1 rfl) ?_
    refine lv_iconst (v := 0) hx hb dX7_isCast_2 (by decide) ?_
    obtain ⟨r2, u1, e3, hF⟩ := bdI_some hF
    refine MM.callVi (m_X7_its e3) k_X7_68 S emOK hEs hK ⟨by decide, by decide⟩ (va_recv hK hP rfl c_MO) rfl rfl hl.1 (Nat.le_of_ble_eq_true rfl) dX7_isCast_3 ⟨Nat.le_refl _, Nat.le_refl _⟩ hP hD hS (fun H locs hP hD hS => ?_)
    refine lv_iconst (v := 2) hx hb dX7_isCast_6 (by decide) ?_
    obtain ⟨r5, u4, e6, hF⟩ := bdI_some hF
    refine MM.callSi (m_X7_isUnder e6) k_X7_120 S emOK hEs hK ⟨by decide, by decide⟩ rfl rfl hl.1 (Nat.le_of_ble_eq_true rfl) dX7_isCast_7 ⟨Nat.le_refl _, Nat.le_refl _⟩ hP hD hS (fun H locs hP hD hS => ?_)
    obtain ⟨hz7, hF⟩ := gz_some hF
    obtain ⟨rfl, rfl⟩ := sp_eq hF
    exact retZ S hr hlocks hP hD hS hz7 dX7_isCast_10
  have hl := lv_entry ([.ref (a 0), .int x1]) (n := 2) (Nat.le_of_ble_eq_true rfl)
  rw [lg_entry_eq]
  generalize (lg_sl ([.ref (a 0), .int x1]) ++ List.replicate (2 - (lg_sl ([.ref (a 0), .int x1])).length) Slot.unset).toArray = ls at hl ⊢
  exact b_main _ _ _ hP hD hS hl

set_option maxRecDepth 100000 in
set_option maxHeartbeats 4000000 in
theorem m_X7_canBeCast  {x1 : Int32} {x2 : Int32} {u u' : Mem} {r : Int32}  (hF : F_X7_canBeCast  u x1 x2 = some (r, u')) : MR l D cc a yX7_canBeCast cX7_canBeCast 5 (some .boolean) 1 22 [.ref (a 0), .int x1, .int x2] u (some (.int r)) u' := by
  refine MM.ofW (by decide) (fun p e s m below meth c S hr hlocks hK hEs hP hD hS => ?_)
  have S : CallFix p m c cX7_canBeCast 5 s _ gtbl RX7 := S
  obtain ⟨hx, hb, hml, hown, hts⟩ := id S
  have b77 : ∀  (u : Mem) (y0 : Int32) , F_X7_canBeCast_77  u y0 = some (r, u') → BW p l e s m below meth c 1 22 [.ref (a 0), .int x1, .int x2] D (AM a) (some (.int r)) (wlM cc a u') 5 (wlM cc a u) 77 [] [.int y0] := by
    intro  u y0 hF H locs ls hP hD hS hl
    unfold F_X7_canBeCast_77 at hF
    obtain ⟨hz1, hF⟩ := gz_some hF
    obtain ⟨rfl, rfl⟩ := sp_eq hF
    exact retZ S hr hlocks hP hD hS hz1 dX7_canBeCast_77
  have b76 : ∀  (u : Mem)  , F_X7_canBeCast_76  u  = some (r, u') → BW p l e s m below meth c 1 22 [.ref (a 0), .int x1, .int x2] D (AM a) (some (.int r)) (wlM cc a u') 5 (wlM cc a u) 76 [] [] := by
    intro  u  hF H locs ls hP hD hS hl
    unfold F_X7_canBeCast_76 at hF
    refine lv_iconst (v := 0) hx hb dX7_canBeCast_76 (by decide) ?_
    exact b77 _ _  hF H locs ls hP hD hS (lv_sub hl [] rfl)
  unfold F_X7_canBeCast at hF
  have b_main : BW p l e s m below meth c 1 22 [.ref (a 0), .int x1, .int x2] D (AM a) (some (.int r)) (wlM cc a u') 5 (wlM cc a u) 0 [(0, .ref (a 0)), (1, .int x1), (2, .int x2)] [] := by
    intro H locs ls hP hD hS hl
    refine lv_bipush (v := 100) hx hb dX7_canBeCast_0 (by decide) ?_
    refine lv_aload_n hx hb dX7_canBeCast_2 rfl (lv_at hl 0 rfl) ?_
    refine lv_iload_n hx hb dX7_canBeCast_3 rfl (lv_at hl 1 rfl) ?_
    refine lv_iconst (v := 1) hx hb dX7_canBeCast_4 (by decide) ?_
    obtain ⟨r3, u2, e4, hF⟩ := bdI_some hF
    refine MM.callVi (m_X7_its e4) k_X7_68 S emOK hEs hK ⟨by decide, by decide⟩ (va_recv hK hP rfl c_MO) rfl rfl hl.1 (Nat.le_of_ble_eq_true rfl) dX7_canBeCast_5 ⟨Nat.le_refl _, Nat.le_refl _⟩ hP hD hS (fun H locs hP hD hS => ?_)
    refine lv_imul hx hb dX7_canBeCast_8 ?_
    refine lv_istore_n (lv' := [(3, .int _), (0, .ref _), (1, .int _), (2, .int _)]) hx hb dX7_canBeCast_9 rfl hl (by decide) rfl (fun ls hl => ?_)
    refine lv_aload_n hx hb dX7_canBeCast_10 rfl (lv_at hl 1 rfl) ?_
    refine lv_iload_n hx hb dX7_canBeCast_11 rfl (lv_at hl 3 rfl) ?_
    refine lv_iconst (v := 1) hx hb dX7_canBeCast_12 (by decide) ?_
    obtain ⟨r6, u5, e7, hF⟩ := bdI_some hF
    refine MM.callVi (m_X7_its e7) k_X7_68 S emOK hEs hK ⟨by decide, by decide⟩ (va_recv hK hP rfl c_MO) rfl rfl hl.1 (Nat.le_of_ble_eq_true rfl) dX7_canBeCast_13 ⟨Nat.le_refl _, Nat.le_refl _⟩ hP hD hS (fun H locs hP hD hS => ?_)
    refine lv_istore (lv' := [(4, .int _), (3, .int _), (0, .ref _), (1, .int _), (2, .int _)]) hx hb dX7_canBeCast_16 hl (by decide) rfl (fun ls hl => ?_)
    refine lv_iload_n hx hb dX7_canBeCast_18 rfl (lv_at hl 4 rfl) ?_
    refine lv_iload_n hx hb dX7_canBeCast_19 rfl (lv_at hl 3 rfl) ?_
    refine lv_icmp_eq (tgt := 76) hx hb dX7_canBeCast_20 (by decide) (fun c8 => ?_) (fun c8 => ?_)
    · have hF := ite_t hF c8
      exact b76 _  hF H locs ls hP hD hS (lv_sub hl [] rfl)
    · have hF := ite_f hF c8
      refine lv_aload_n hx hb dX7_canBeCast_23 rfl (lv_at hl 2 rfl) ?_
      refine lv_iload_n hx hb dX7_canBeCast_24 rfl (lv_at hl 4 rfl) ?_
      refine lv_iconst (v := 2) hx hb dX7_canBeCast_25 (by decide) ?_
      obtain ⟨r10, u9, e11, hF⟩ := bdI_some hF
      refine MM.callVi (m_X7_its e11) k_X7_68 S emOK hEs hK ⟨by decide, by decide⟩ (va_recv hK hP rfl c_MO) rfl rfl hl.1 (Nat.le_of_ble_eq_true rfl) dX7_canBeCast_26 ⟨Nat.le_refl _, Nat.le_refl _⟩ hP hD hS (fun H locs hP hD hS => ?_)
      refine lv_aload_n hx hb dX7_canBeCast_29 rfl (lv_at hl 2 rfl) ?_
      refine lv_iload_n hx hb dX7_canBeCast_30 rfl (lv_at hl 3 rfl) ?_
      refine lv_iconst (v := 2) hx hb dX7_canBeCast_31 (by decide) ?_
      obtain ⟨r13, u12, e14, hF⟩ := bdI_some hF
      refine MM.callVi (m_X7_its e14) k_X7_68 S emOK hEs hK ⟨by decide, by decide⟩ (va_recv hK hP rfl c_MO) rfl rfl hl.1 (Nat.le_of_ble_eq_true rfl) dX7_canBeCast_32 ⟨Nat.le_refl _, Nat.le_refl _⟩ hP hD hS (fun H locs hP hD hS => ?_)
      refine lv_icmp_gt (tgt := 76) hx hb dX7_canBeCast_35 (by decide) (fun c15 => ?_) (fun c15 => ?_)
      · have hF := ite_t hF c15
        exact b76 _  hF H locs ls hP hD hS (lv_sub hl [] rfl)
      · have hF := ite_f hF c15
        refine lv_aload_n hx hb dX7_canBeCast_38 rfl (lv_at hl 2 rfl) ?_
        refine va_get_w S hK hP _ c_MO rfl igX7 1 (by decide) q880 rfl rfl dX7_canBeCast_39 ?_
        refine lv_iload_n hx hb dX7_canBeCast_42 rfl (lv_at hl 4 rfl) ?_
        obtain ⟨hin16, hF⟩ := gd_some hF
        refine mLald S hK hP ⟨rfl, by decide⟩ rfl hin16 dX7_canBeCast_43 ?_
        refine lv_aload_n hx hb dX7_canBeCast_44 rfl (lv_at hl 2 rfl) ?_
        refine va_get_w S hK hP _ c_MO rfl igX7 1 (by decide) q880 rfl rfl dX7_canBeCast_45 ?_
        refine lv_iload_n hx hb dX7_canBeCast_48 rfl (lv_at hl 3 rfl) ?_
        obtain ⟨hin17, hF⟩ := gd_some hF
        refine mLald S hK hP ⟨rfl, by decide⟩ rfl hin17 dX7_canBeCast_49 ?_
        refine W.lcmp hx hb dX7_canBeCast_50 ?_
        refine lv_if_ne (tgt := 76) hx hb dX7_canBeCast_51 (by decide) (fun c18 => ?_) (fun c18 => ?_)
        · have hF := ite_f hF c18
          exact b76 _  hF H locs ls hP hD hS (lv_sub hl [] rfl)
        · have hF := ite_t hF c18
          refine lv_bipush (v := 96) hx hb dX7_canBeCast_54 (by decide) ?_
          refine lv_iload hx hb dX7_canBeCast_56 (lv_at hl 0 rfl) ?_
          refine lv_imul hx hb dX7_canBeCast_58 ?_
          refine lv_iload_n hx hb dX7_canBeCast_59 rfl (lv_at hl 1 rfl) ?_
          refine lv_icmp_gt (tgt := 76) hx hb dX7_canBeCast_60 (by decide) (fun c19 => ?_) (fun c19 => ?_)
          · have hF := ite_t hF c19
            exact b76 _  hF H locs ls hP hD hS (lv_sub hl [] rfl)
          · have hF := ite_f hF c19
            refine lv_bipush (v := 98) hx hb dX7_canBeCast_63 (by decide) ?_
            refine lv_iload hx hb dX7_canBeCast_65 (lv_at hl 0 rfl) ?_
            refine lv_imul hx hb dX7_canBeCast_67 ?_
            refine lv_iload_n hx hb dX7_canBeCast_68 rfl (lv_at hl 1 rfl) ?_
            refine lv_icmp_lt (tgt := 76) hx hb dX7_canBeCast_69 (by decide) (fun c20 => ?_) (fun c20 => ?_)
            · have hF := ite_t hF c20
              exact b76 _  hF H locs ls hP hD hS (lv_sub hl [] rfl)
            · have hF := ite_f hF c20
              refine lv_iconst (v := 1) hx hb dX7_canBeCast_72 (by decide) ?_
              refine lv_goto (tgt := 77) hx hb dX7_canBeCast_73 (by decide) ?_
              exact b77 _ _  hF H locs ls hP hD hS (lv_sub hl [] rfl)
  have hl := lv_entry ([.ref (a 0), .int x1, .int x2]) (n := 5) (Nat.le_of_ble_eq_true rfl)
  rw [lg_entry_eq]
  generalize (lg_sl ([.ref (a 0), .int x1, .int x2]) ++ List.replicate (5 - (lg_sl ([.ref (a 0), .int x1, .int x2])).length) Slot.unset).toArray = ls at hl ⊢
  exact b_main _ _ _ hP hD hS hl

set_option maxRecDepth 100000 in
set_option maxHeartbeats 4000000 in
theorem m_X7_fromOf  {x1 : Int32} {u u' : Mem} {r : Int32}  (hF : F_X7_fromOf  u x1 = some (r, u')) : MR l D cc a yX7_fromOf cX7_fromOf 3 (some .int) 2 46 [.ref (a 0), .int x1] u (some (.int r)) u' := by
  refine MM.ofW (by decide) (fun p e s m below meth c S hr hlocks hK hEs hP hD hS => ?_)
  have S : CallFix p m c cX7_fromOf 3 s _ gtbl RX7 := S
  obtain ⟨hx, hb, hml, hown, hts⟩ := id S
  have b42 : ∀  (u : Mem) (y0 : Int32) , F_X7_fromOf_42  u y0 = some (r, u') → BW p l e s m below meth c 2 46 [.ref (a 0), .int x1] D (AM a) (some (.int r)) (wlM cc a u') 3 (wlM cc a u) 42 [] [.int y0] := by
    intro  u y0 hF H locs ls hP hD hS hl
    unfold F_X7_fromOf_42 at hF
    obtain ⟨rfl, rfl⟩ := sp_eq hF
    exact retI S hr hlocks hP hD hS dX7_fromOf_42
  have b27 : ∀  (u : Mem) (v2 : Int32) , F_X7_fromOf_27  u v2 = some (r, u') → BW p l e s m below meth c 2 46 [.ref (a 0), .int x1] D (AM a) (some (.int r)) (wlM cc a u') 3 (wlM cc a u) 27 [(0, .ref (a 0)), (2, .int v2)] [] := by
    intro  u v2 hF H locs ls hP hD hS hl
    unfold F_X7_fromOf_27 at hF
    refine lv_iload_n hx hb dX7_fromOf_27 rfl (lv_at hl 1 rfl) ?_
    refine lv_aload_n hx hb dX7_fromOf_28 rfl (lv_at hl 0 rfl) ?_
    refine va_get_w S hK hP _ c_MO rfl igX7 0 (by decide) q879 rfl rfl dX7_fromOf_29 ?_
    refine lv_iconst (v := 0) hx hb dX7_fromOf_32 (by decide) ?_
    obtain ⟨hin1, hF⟩ := gd_some hF
    refine mIald S hK hP ⟨rfl, by decide⟩ rfl hin1 dX7_fromOf_33 ?_
    refine lv_icmp_ge (tgt := 41) hx hb dX7_fromOf_34 (by decide) (fun c2 => ?_) (fun c2 => ?_)
    · have hF := ite_t hF c2
      refine lv_iconst (v := -1) hx hb dX7_fromOf_41 (by decide) ?_
      exact b42 _ _  hF H locs ls hP hD hS (lv_sub hl [] rfl)
    · have hF := ite_f hF c2
      refine lv_iload_n hx hb dX7_fromOf_37 rfl (lv_at hl 1 rfl) ?_
      refine lv_goto (tgt := 42) hx hb dX7_fromOf_38 (by decide) ?_
      exact b42 _ _  hF H locs ls hP hD hS (lv_sub hl [] rfl)
  have b2 : ∀ (n : Nat) (u : Mem) (v1 : Int32) (v2 : Int32) , F_X7_fromOf_2  n u v1 v2 = some (r, u') → BW p l e s m below meth c 2 46 [.ref (a 0), .int x1] D (AM a) (some (.int r)) (wlM cc a u') 3 (wlM cc a u) 2 [(0, .ref (a 0)), (1, .int v1), (2, .int v2)] [] := by
    intro n
    induction n with
    | zero => intro u v1 v2 hF; cases hF
    | succ n ih =>
      intro u v1 v2 hF H locs ls hP hD hS hl
      unfold F_X7_fromOf_2 at hF
      refine lv_iload_n hx hb dX7_fromOf_2 rfl (lv_at hl 2 rfl) ?_
      refine lv_aload_n hx hb dX7_fromOf_3 rfl (lv_at hl 0 rfl) ?_
      refine va_get_w S hK hP _ c_MO rfl igX7 0 (by decide) q879 rfl rfl dX7_fromOf_4 ?_
      refine lv_iconst (v := 0) hx hb dX7_fromOf_7 (by decide) ?_
      obtain ⟨hin3, hF⟩ := gd_some hF
      refine mIald S hK hP ⟨rfl, by decide⟩ rfl hin3 dX7_fromOf_8 ?_
      refine lv_icmp_ge (tgt := 27) hx hb dX7_fromOf_9 (by decide) (fun c4 => ?_) (fun c4 => ?_)
      · have hF := ite_t hF c4
        exact b27 _ _  hF H locs ls hP hD hS (lv_sub hl [0, 2] rfl)
      · have hF := ite_f hF c4
        refine lv_aload_n hx hb dX7_fromOf_12 rfl (lv_at hl 0 rfl) ?_
        refine lv_iload_n hx hb dX7_fromOf_13 rfl (lv_at hl 1 rfl) ?_
        refine lv_iload_n hx hb dX7_fromOf_14 rfl (lv_at hl 2 rfl) ?_
        obtain ⟨r6, u5, e7, hF⟩ := bdI_some hF
        refine MM.callVi (m_X7_canBeCast e7) k_X7_182 S emOK hEs hK ⟨by decide, by decide⟩ (va_recv hK hP rfl c_MO) rfl rfl hl.1 (Nat.le_of_ble_eq_true rfl) dX7_fromOf_15 ⟨Nat.le_refl _, Nat.le_refl _⟩ hP hD hS (fun H locs hP hD hS => ?_)
        refine lv_if_ne (tgt := 27) hx hb dX7_fromOf_18 (by decide) (fun c8 => ?_) (fun c8 => ?_)
        · have hF := ite_f hF c8
          exact b27 _ _  hF H locs ls hP hD hS (lv_sub hl [0, 2] rfl)
        · have hF := ite_t hF c8
          refine lv_inc1 (k := 2) (lv' := [(2, .int _), (0, .ref _), (1, .int _)]) hx hb dX7_fromOf_21 hl rfl (by decide) rfl (fun ls hl => ?_)
          refine lv_goto (tgt := 2) hx hb dX7_fromOf_24 (by decide) ?_
          exact ih _ _ _  hF H locs ls hP hD hS (lv_sub hl [1, 2, 0] rfl)
  unfold F_X7_fromOf at hF
  have b_main : BW p l e s m below meth c 2 46 [.ref (a 0), .int x1] D (AM a) (some (.int r)) (wlM cc a u') 3 (wlM cc a u) 0 [(0, .ref (a 0)), (1, .int x1)] [] := by
    intro H locs ls hP hD hS hl
    refine lv_iconst (v := 0) hx hb dX7_fromOf_0 (by decide) ?_
    refine lv_istore_n (lv' := [(2, .int _), (0, .ref _), (1, .int _)]) hx hb dX7_fromOf_1 rfl hl (by decide) rfl (fun ls hl => ?_)
    exact b2 _ _ _ _  hF H locs ls hP hD hS (lv_sub hl [1, 2, 0] rfl)
  have hl := lv_entry ([.ref (a 0), .int x1]) (n := 3) (Nat.le_of_ble_eq_true rfl)
  rw [lg_entry_eq]
  generalize (lg_sl ([.ref (a 0), .int x1]) ++ List.replicate (3 - (lg_sl ([.ref (a 0), .int x1])).length) Slot.unset).toArray = ls at hl ⊢
  exact b_main _ _ _ hP hD hS hl

set_option maxRecDepth 100000 in
set_option maxHeartbeats 4000000 in
theorem m_X7_castOf  {x1 : Int32} {u u' : Mem} {r : Int32}  (hF : F_X7_castOf  u x1 = some (r, u')) : MR l D cc a yX7_castOf cX7_castOf 3 (some .int) 3 68 [.ref (a 0), .int x1] u (some (.int r)) u' := by
  refine MM.ofW (by decide) (fun p e s m below meth c S hr hlocks hK hEs hP hD hS => ?_)
  have S : CallFix p m c cX7_castOf 3 s _ gtbl RX7 := S
  obtain ⟨hx, hb, hml, hown, hts⟩ := id S
  have b50 : ∀  (u : Mem) (y0 : Int32) , F_X7_castOf_50  u y0 = some (r, u') → BW p l e s m below meth c 3 68 [.ref (a 0), .int x1] D (AM a) (some (.int r)) (wlM cc a u') 3 (wlM cc a u) 50 [] [.int y0] := by
    intro  u y0 hF H locs ls hP hD hS hl
    unfold F_X7_castOf_50 at hF
    obtain ⟨rfl, rfl⟩ := sp_eq hF
    exact retI S hr hlocks hP hD hS dX7_castOf_50
  unfold F_X7_castOf at hF
  have b_main : BW p l e s m below meth c 3 68 [.ref (a 0), .int x1] D (AM a) (some (.int r)) (wlM cc a u') 3 (wlM cc a u) 0 [(0, .ref (a 0)), (1, .int x1)] [] := by
    intro H locs ls hP hD hS hl
    refine lv_aload_n hx hb dX7_castOf_0 rfl (lv_at hl 0 rfl) ?_
    refine lv_iload_n hx hb dX7_castOf_1 rfl (lv_at hl 1 rfl) ?_
    obtain ⟨r2, u1, e3, hF⟩ := bdI_some hF
    refine MM.callVi (m_X7_isPrint e3) k_X7_103 S emOK hEs hK ⟨by decide, by decide⟩ (va_recv hK hP rfl c_MO) rfl rfl hl.1 (Nat.le_of_ble_eq_true rfl) dX7_castOf_2 ⟨Nat.le_refl _, Nat.le_refl _⟩ hP hD hS (fun H locs hP hD hS => ?_)
    refine lv_if_ne (tgt := 15) hx hb dX7_castOf_5 (by decide) (fun c4 => ?_) (fun c4 => ?_)
    · have hF := ite_f hF c4
      refine lv_aload_n hx hb dX7_castOf_15 rfl (lv_at hl 0 rfl) ?_
      refine lv_iload_n hx hb dX7_castOf_16 rfl (lv_at hl 1 rfl) ?_
      obtain ⟨r6, u5, e7, hF⟩ := bdI_some hF
      refine MM.callVi (m_X7_isCast e7) k_X7_185 S emOK hEs hK ⟨by decide, by decide⟩ (va_recv hK hP rfl c_MO) rfl rfl hl.1 (Nat.le_of_ble_eq_true rfl) dX7_castOf_17 ⟨Nat.le_refl _, Nat.le_refl _⟩ hP hD hS (fun H locs hP hD hS => ?_)
      refine lv_if_ne (tgt := 30) hx hb dX7_castOf_20 (by decide) (fun c8 => ?_) (fun c8 => ?_)
      · have hF := ite_f hF c8
        refine lv_aload_n hx hb dX7_castOf_30 rfl (lv_at hl 0 rfl) ?_
        refine lv_iload_n hx hb dX7_castOf_31 rfl (lv_at hl 1 rfl) ?_
        obtain ⟨r10, u9, e11, hF⟩ := bdI_some hF
        refine MM.callVi (m_X7_fromOf e11) k_X7_188 S emOK hEs hK ⟨by decide, by decide⟩ (va_recv hK hP rfl c_MO) rfl rfl hl.1 (Nat.le_of_ble_eq_true rfl) dX7_castOf_32 ⟨Nat.le_refl _, Nat.le_refl _⟩ hP hD hS (fun H locs hP hD hS => ?_)
        refine lv_istore_n (lv' := [(2, .int _), (0, .ref _), (1, .int _)]) hx hb dX7_castOf_35 rfl hl (by decide) rfl (fun ls hl => ?_)
        refine lv_iload_n hx hb dX7_castOf_36 rfl (lv_at hl 0 rfl) ?_
        refine lv_if_ge (tgt := 49) hx hb dX7_castOf_37 (by decide) (fun c12 => ?_) (fun c12 => ?_)
        · have hF := ite_t hF c12
          refine lv_iload_n hx hb dX7_castOf_49 rfl (lv_at hl 0 rfl) ?_
          exact b50 _ _  hF H locs ls hP hD hS (lv_sub hl [] rfl)
        · have hF := ite_f hF c12
          refine lv_aload_n hx hb dX7_castOf_40 rfl (lv_at hl 1 rfl) ?_
          refine lv_ldc hx hb hown (hts _ q1079) dX7_castOf_41 ?_
          obtain ⟨r14, u13, e15, hF⟩ := bdI_some hF
          refine MM.callVi (m_X7_finds e15) k_X7_94 S emOK hEs hK ⟨by decide, by decide⟩ (va_recv hK hP rfl c_MO) rfl rfl hl.1 (Nat.le_of_ble_eq_true rfl) dX7_castOf_43 ⟨Nat.le_refl _, Nat.le_refl _⟩ hP hD hS (fun H locs hP hD hS => ?_)
          refine lv_goto (tgt := 50) hx hb dX7_castOf_46 (by decide) ?_
          exact b50 _ _  hF H locs ls hP hD hS (lv_sub hl [] rfl)
      · have hF := ite_t hF c8
        refine lv_aload_n hx hb dX7_castOf_23 rfl (lv_at hl 0 rfl) ?_
        refine lv_ldc hx hb hown (hts _ q1084) dX7_castOf_24 ?_
        obtain ⟨r17, u16, e18, hF⟩ := bdI_some hF
        refine MM.callVi (m_X7_finds e18) k_X7_94 S emOK hEs hK ⟨by decide, by decide⟩ (va_recv hK hP rfl c_MO) rfl rfl hl.1 (Nat.le_of_ble_eq_true rfl) dX7_castOf_26 ⟨Nat.le_refl _, Nat.le_refl _⟩ hP hD hS (fun H locs hP hD hS => ?_)
        obtain ⟨rfl, rfl⟩ := sp_eq hF
        exact retI S hr hlocks hP hD hS dX7_castOf_29
    · have hF := ite_t hF c4
      refine lv_aload_n hx hb dX7_castOf_8 rfl (lv_at hl 0 rfl) ?_
      refine lv_ldc hx hb hown (hts _ q966) dX7_castOf_9 ?_
      obtain ⟨r20, u19, e21, hF⟩ := bdI_some hF
      refine MM.callVi (m_X7_finds e21) k_X7_94 S emOK hEs hK ⟨by decide, by decide⟩ (va_recv hK hP rfl c_MO) rfl rfl hl.1 (Nat.le_of_ble_eq_true rfl) dX7_castOf_11 ⟨Nat.le_refl _, Nat.le_refl _⟩ hP hD hS (fun H locs hP hD hS => ?_)
      obtain ⟨rfl, rfl⟩ := sp_eq hF
      exact retI S hr hlocks hP hD hS dX7_castOf_14
  have hl := lv_entry ([.ref (a 0), .int x1]) (n := 3) (Nat.le_of_ble_eq_true rfl)
  rw [lg_entry_eq]
  generalize (lg_sl ([.ref (a 0), .int x1]) ++ List.replicate (3 - (lg_sl ([.ref (a 0), .int x1])).length) Slot.unset).toArray = ls at hl ⊢
  exact b_main _ _ _ hP hD hS hl

set_option maxRecDepth 100000 in
set_option maxHeartbeats 4000000 in
theorem m_X7_deep  {x1 : Int32} {u u' : Mem} {r : Int32}  (hF : F_X7_deep  u x1 = some (r, u')) : MR l D cc a yX7_deep cX7_deep 6 (some .int) 3 68 [.ref (a 0), .int x1] u (some (.int r)) u' := by
  refine MM.ofW (by decide) (fun p e s m below meth c S hr hlocks hK hEs hP hD hS => ?_)
  have S : CallFix p m c cX7_deep 6 s _ gtbl RX7 := S
  obtain ⟨hx, hb, hml, hown, hts⟩ := id S
  have b92 : ∀  (u : Mem) (v2 : Int32) , F_X7_deep_92  u v2 = some (r, u') → BW p l e s m below meth c 3 68 [.ref (a 0), .int x1] D (AM a) (some (.int r)) (wlM cc a u') 6 (wlM cc a u) 92 [(2, .int v2)] [] := by
    intro  u v2 hF H locs ls hP hD hS hl
    unfold F_X7_deep_92 at hF
    refine lv_iload_n hx hb dX7_deep_92 rfl (lv_at hl 0 rfl) ?_
    obtain ⟨rfl, rfl⟩ := sp_eq hF
    exact retI S hr hlocks hP hD hS dX7_deep_93
  have b88 : ∀ (k22 : Mem → Int32 → Int32 → Int32 → Option (Int32 × Mem)) (hk22 : ∀ (u : Mem) (v2 : Int32) (v3 : Int32) (v4 : Int32) , k22 u v2 v3 v4 = some (r, u') → BW p l e s m below meth c 3 68 [.ref (a 0), .int x1] D (AM a) (some (.int r)) (wlM cc a u') 6 (wlM cc a u) 22 [(0, .ref (a 0)), (2, .int v2), (3, .int v3), (4, .int v4)] []) (u : Mem) (v2 : Int32) (v4 : Int32) (y0 : Int32) , F_X7_deep_88 k22 u v2 v4 y0 = some (r, u') → BW p l e s m below meth c 3 68 [.ref (a 0), .int x1] D (AM a) (some (.int r)) (wlM cc a u') 6 (wlM cc a u) 88 [(0, .ref (a 0)), (2, .int v2), (4, .int v4)] [.int y0] := by
    intro k22 hk22 u v2 v4 y0 hF H locs ls hP hD hS hl
    unfold F_X7_deep_88 at hF
    refine lv_istore_n (lv' := [(3, .int _), (0, .ref _), (2, .int _), (4, .int _)]) hx hb dX7_deep_88 rfl hl (by decide) rfl (fun ls hl => ?_)
    refine lv_goto (tgt := 22) hx hb dX7_deep_89 (by decide) ?_
    exact hk22 _ _ _ _  hF H locs ls hP hD hS (lv_sub hl [1, 2, 0, 3] rfl)
  have b75 : ∀ (k22 : Mem → Int32 → Int32 → Int32 → Option (Int32 × Mem)) (hk22 : ∀ (u : Mem) (v2 : Int32) (v3 : Int32) (v4 : Int32) , k22 u v2 v3 v4 = some (r, u') → BW p l e s m below meth c 3 68 [.ref (a 0), .int x1] D (AM a) (some (.int r)) (wlM cc a u') 6 (wlM cc a u) 22 [(0, .ref (a 0)), (2, .int v2), (3, .int v3), (4, .int v4)] []) (u : Mem) (v3 : Int32) (v4 : Int32) (v5 : Int32) (y0 : Int32) (y1 : Int32) , F_X7_deep_75 k22 u v3 v4 v5 y0 y1 = some (r, u') → BW p l e s m below meth c 3 68 [.ref (a 0), .int x1] D (AM a) (some (.int r)) (wlM cc a u') 6 (wlM cc a u) 75 [(0, .ref (a 0)), (3, .int v3), (4, .int v4), (5, .int v5)] [.int y1, .int y0] := by
    intro k22 hk22 u v3 v4 v5 y0 y1 hF H locs ls hP hD hS hl
    unfold F_X7_deep_75 at hF
    refine lv_iadd hx hb dX7_deep_75 ?_
    refine lv_istore_n (lv' := [(2, .int _), (0, .ref _), (3, .int _), (4, .int _), (5, .int _)]) hx hb dX7_deep_76 rfl hl (by decide) rfl (fun ls hl => ?_)
    refine lv_iload hx hb dX7_deep_77 (lv_at hl 3 rfl) ?_
    refine lv_if_eq (tgt := 87) hx hb dX7_deep_79 (by decide) (fun c1 => ?_) (fun c1 => ?_)
    · have hF := ite_t hF c1
      refine lv_iload_n hx hb dX7_deep_87 rfl (lv_at hl 2 rfl) ?_
      exact b88 _ hk22 _ _ _ _  hF H locs ls hP hD hS (lv_sub hl [1, 0, 3] rfl)
    · have hF := ite_f hF c1
      refine lv_iload hx hb dX7_deep_82 (lv_at hl 4 rfl) ?_
      refine lv_goto (tgt := 88) hx hb dX7_deep_84 (by decide) ?_
      exact b88 _ hk22 _ _ _ _  hF H locs ls hP hD hS (lv_sub hl [1, 0, 3] rfl)
  have b62 : ∀ (k22 : Mem → Int32 → Int32 → Int32 → Option (Int32 × Mem)) (hk22 : ∀ (u : Mem) (v2 : Int32) (v3 : Int32) (v4 : Int32) , k22 u v2 v3 v4 = some (r, u') → BW p l e s m below meth c 3 68 [.ref (a 0), .int x1] D (AM a) (some (.int r)) (wlM cc a u') 6 (wlM cc a u) 22 [(0, .ref (a 0)), (2, .int v2), (3, .int v3), (4, .int v4)] []) (u : Mem) (v2 : Int32) (v3 : Int32) (v5 : Int32) (y0 : Int32) , F_X7_deep_62 k22 u v2 v3 v5 y0 = some (r, u') → BW p l e s m below meth c 3 68 [.ref (a 0), .int x1] D (AM a) (some (.int r)) (wlM cc a u') 6 (wlM cc a u) 62 [(0, .ref (a 0)), (2, .int v2), (3, .int v3), (5, .int v5)] [.int y0] := by
    intro k22 hk22 u v2 v3 v5 y0 hF H locs ls hP hD hS hl
    unfold F_X7_deep_62 at hF
    refine lv_istore (lv' := [(4, .int _), (0, .ref _), (2, .int _), (3, .int _), (5, .int _)]) hx hb dX7_deep_62 hl (by decide) rfl (fun ls hl => ?_)
    refine lv_iload_n hx hb dX7_deep_64 rfl (lv_at hl 2 rfl) ?_
    refine lv_iload hx hb dX7_deep_65 (lv_at hl 0 rfl) ?_
    refine lv_if_eq (tgt := 74) hx hb dX7_deep_67 (by decide) (fun c2 => ?_) (fun c2 => ?_)
    · have hF := ite_t hF c2
      refine lv_iconst (v := 0) hx hb dX7_deep_74 (by decide) ?_
      exact b75 _ hk22 _ _ _ _ _ _  hF H locs ls hP hD hS (lv_sub hl [1, 3, 0, 4] rfl)
    · have hF := ite_f hF c2
      refine lv_iconst (v := 1) hx hb dX7_deep_70 (by decide) ?_
      refine lv_goto (tgt := 75) hx hb dX7_deep_71 (by decide) ?_
      exact b75 _ hk22 _ _ _ _ _ _  hF H locs ls hP hD hS (lv_sub hl [1, 3, 0, 4] rfl)
  have b50 : ∀ (k22 : Mem → Int32 → Int32 → Int32 → Option (Int32 × Mem)) (hk22 : ∀ (u : Mem) (v2 : Int32) (v3 : Int32) (v4 : Int32) , k22 u v2 v3 v4 = some (r, u') → BW p l e s m below meth c 3 68 [.ref (a 0), .int x1] D (AM a) (some (.int r)) (wlM cc a u') 6 (wlM cc a u) 22 [(0, .ref (a 0)), (2, .int v2), (3, .int v3), (4, .int v4)] []) (u : Mem) (v2 : Int32) (v3 : Int32) (y0 : Int32) , F_X7_deep_50 k22 u v2 v3 y0 = some (r, u') → BW p l e s m below meth c 3 68 [.ref (a 0), .int x1] D (AM a) (some (.int r)) (wlM cc a u') 6 (wlM cc a u) 50 [(0, .ref (a 0)), (2, .int v2), (3, .int v3)] [.int y0] := by
    intro k22 hk22 u v2 v3 y0 hF H locs ls hP hD hS hl
    unfold F_X7_deep_50 at hF
    refine lv_istore (lv' := [(5, .int _), (0, .ref _), (2, .int _), (3, .int _)]) hx hb dX7_deep_50 hl (by decide) rfl (fun ls hl => ?_)
    refine lv_iload hx hb dX7_deep_52 (lv_at hl 0 rfl) ?_
    refine lv_if_lt (tgt := 61) hx hb dX7_deep_54 (by decide) (fun c3 => ?_) (fun c3 => ?_)
    · have hF := ite_t hF c3
      refine lv_iconst (v := 0) hx hb dX7_deep_61 (by decide) ?_
      exact b62 _ hk22 _ _ _ _ _  hF H locs ls hP hD hS (lv_sub hl [1, 2, 3, 0] rfl)
    · have hF := ite_f hF c3
      refine lv_iconst (v := 1) hx hb dX7_deep_57 (by decide) ?_
      refine lv_goto (tgt := 62) hx hb dX7_deep_58 (by decide) ?_
      exact b62 _ hk22 _ _ _ _ _  hF H locs ls hP hD hS (lv_sub hl [1, 2, 3, 0] rfl)
  have b22 : ∀ (n : Nat) (u : Mem) (v2 : Int32) (v3 : Int32) (v4 : Int32) , F_X7_deep_22  n u v2 v3 v4 = some (r, u') → BW p l e s m below meth c 3 68 [.ref (a 0), .int x1] D (AM a) (some (.int r)) (wlM cc a u') 6 (wlM cc a u) 22 [(0, .ref (a 0)), (2, .int v2), (3, .int v3), (4, .int v4)] [] := by
    intro n
    induction n with
    | zero => intro u v2 v3 v4 hF; cases hF
    | succ n ih =>
      intro u v2 v3 v4 hF H locs ls hP hD hS hl
      unfold F_X7_deep_22 at hF
      refine lv_iload hx hb dX7_deep_22 (lv_at hl 3 rfl) ?_
      refine lv_if_eq (tgt := 92) hx hb dX7_deep_24 (by decide) (fun c4 => ?_) (fun c4 => ?_)
      · have hF := ite_t hF c4
        exact b92 _ _  hF H locs ls hP hD hS (lv_sub hl [1] rfl)
      · have hF := ite_f hF c4
        refine lv_iload_n hx hb dX7_deep_27 rfl (lv_at hl 1 rfl) ?_
        refine lv_bipush (v := 12) hx hb dX7_deep_28 (by decide) ?_
        refine lv_icmp_ge (tgt := 92) hx hb dX7_deep_30 (by decide) (fun c5 => ?_) (fun c5 => ?_)
        · have hF := ite_t hF c5
          exact b92 _ _  hF H locs ls hP hD hS (lv_sub hl [1] rfl)
        · have hF := ite_f hF c5
          refine lv_aload_n hx hb dX7_deep_33 rfl (lv_at hl 0 rfl) ?_
          refine lv_iload_n hx hb dX7_deep_34 rfl (lv_at hl 2 rfl) ?_
          obtain ⟨r7, u6, e8, hF⟩ := bdI_some hF
          refine MM.callVi (m_X7_isCast e8) k_X7_185 S emOK hEs hK ⟨by decide, by decide⟩ (va_recv hK hP rfl c_MO) rfl rfl hl.1 (Nat.le_of_ble_eq_true rfl) dX7_deep_35 ⟨Nat.le_refl _, Nat.le_refl _⟩ hP hD hS (fun H locs hP hD hS => ?_)
          refine lv_if_eq (tgt := 49) hx hb dX7_deep_38 (by decide) (fun c9 => ?_) (fun c9 => ?_)
          · have hF := ite_t hF c9
            refine lv_iconst (v := -1) hx hb dX7_deep_49 (by decide) ?_
            exact b50 _ ih _ _ _ _  hF H locs ls hP hD hS (lv_sub hl [0, 1, 2] rfl)
          · have hF := ite_f hF c9
            refine lv_aload_n hx hb dX7_deep_41 rfl (lv_at hl 0 rfl) ?_
            refine lv_iload_n hx hb dX7_deep_42 rfl (lv_at hl 2 rfl) ?_
            obtain ⟨r11, u10, e12, hF⟩ := bdI_some hF
            refine MM.callVi (m_X7_fromOf e12) k_X7_188 S emOK hEs hK ⟨by decide, by decide⟩ (va_recv hK hP rfl c_MO) rfl rfl hl.1 (Nat.le_of_ble_eq_true rfl) dX7_deep_43 ⟨Nat.le_refl _, Nat.le_refl _⟩ hP hD hS (fun H locs hP hD hS => ?_)
            refine lv_goto (tgt := 50) hx hb dX7_deep_46 (by decide) ?_
            exact b50 _ ih _ _ _ _  hF H locs ls hP hD hS (lv_sub hl [0, 1, 2] rfl)
  unfold F_X7_deep at hF
  have b_main : BW p l e s m below meth c 3 68 [.ref (a 0), .int x1] D (AM a) (some (.int r)) (wlM cc a u') 6 (wlM cc a u) 0 [(0, .ref (a 0)), (1, .int x1)] [] := by
    intro H locs ls hP hD hS hl
    refine lv_aload_n hx hb dX7_deep_0 rfl (lv_at hl 0 rfl) ?_
    refine lv_iload_n hx hb dX7_deep_1 rfl (lv_at hl 1 rfl) ?_
    obtain ⟨r14, u13, e15, hF⟩ := bdI_some hF
    refine MM.callVi (m_X7_isPrint e15) k_X7_103 S emOK hEs hK ⟨by decide, by decide⟩ (va_recv hK hP rfl c_MO) rfl rfl hl.1 (Nat.le_of_ble_eq_true rfl) dX7_deep_2 ⟨Nat.le_refl _, Nat.le_refl _⟩ hP hD hS (fun H locs hP hD hS => ?_)
    refine lv_if_ne (tgt := 15) hx hb dX7_deep_5 (by decide) (fun c16 => ?_) (fun c16 => ?_)
    · have hF := ite_f hF c16
      refine lv_iconst (v := 0) hx hb dX7_deep_15 (by decide) ?_
      refine lv_istore_n (lv' := [(2, .int _), (0, .ref _), (1, .int _)]) hx hb dX7_deep_16 rfl hl (by decide) rfl (fun ls hl => ?_)
      refine lv_iload_n hx hb dX7_deep_17 rfl (lv_at hl 2 rfl) ?_
      refine lv_istore_n (lv' := [(3, .int _), (2, .int _), (0, .ref _), (1, .int _)]) hx hb dX7_deep_18 rfl hl (by decide) rfl (fun ls hl => ?_)
      refine lv_iconst (v := 1) hx hb dX7_deep_19 (by decide) ?_
      refine lv_istore (lv' := [(4, .int _), (3, .int _), (2, .int _), (0, .ref _), (1, .int _)]) hx hb dX7_deep_20 hl (by decide) rfl (fun ls hl => ?_)
      exact b22 _ _ _ _ _  hF H locs ls hP hD hS (lv_sub hl [3, 2, 1, 0] rfl)
    · have hF := ite_t hF c16
      refine lv_aload_n hx hb dX7_deep_8 rfl (lv_at hl 0 rfl) ?_
      refine lv_ldc hx hb hown (hts _ q966) dX7_deep_9 ?_
      obtain ⟨r18, u17, e19, hF⟩ := bdI_some hF
      refine MM.callVi (m_X7_finds e19) k_X7_94 S emOK hEs hK ⟨by decide, by decide⟩ (va_recv hK hP rfl c_MO) rfl rfl hl.1 (Nat.le_of_ble_eq_true rfl) dX7_deep_11 ⟨Nat.le_refl _, Nat.le_refl _⟩ hP hD hS (fun H locs hP hD hS => ?_)
      obtain ⟨rfl, rfl⟩ := sp_eq hF
      exact retI S hr hlocks hP hD hS dX7_deep_14
  have hl := lv_entry ([.ref (a 0), .int x1]) (n := 6) (Nat.le_of_ble_eq_true rfl)
  rw [lg_entry_eq]
  generalize (lg_sl ([.ref (a 0), .int x1]) ++ List.replicate (6 - (lg_sl ([.ref (a 0), .int x1])).length) Slot.unset).toArray = ls at hl ⊢
  exact b_main _ _ _ hP hD hS hl

end
