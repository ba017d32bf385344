section
variable {l : Launch} {D : va_G} {cc : Nat → ClassId} {a : Nat → Nat}
set_option maxRecDepth 100000 in
set_option maxHeartbeats 4000000 in
theorem m_X7_tell   {u u' : Mem} {r : Int32}  (hF : F_X7_tell  u  = some (r, u')) : MR l D cc a yX7_tell cX7_tell 7 (some .int) 8 185 [.ref (a 0)] u (some (.int r)) u' := by
  refine MM.ofW (by decide) (fun p e s m below meth c S hr hlocks hK hEs hP hD hS => ?_)
  have S : CallFix p m c cX7_tell 7 s _ gtbl RX7 := S
  obtain ⟨hx, hb, hml, hown, hts⟩ := id S
  have b136 : ∀  (u : Mem) (y0 : Int32) , F_X7_tell_136  u y0 = some (r, u') → BW p l e s m below meth c 8 185 [.ref (a 0)] D (AM a) (some (.int r)) (wlM cc a u') 7 (wlM cc a u) 136 [] [.int y0] := by
    intro  u y0 hF H locs ls hP hD hS hl
    unfold F_X7_tell_136 at hF
    obtain ⟨rfl, rfl⟩ := sp_eq hF
    exact retI S hr hlocks hP hD hS dX7_tell_136
  have b116 : ∀ (k25 : Mem → Int32 → Int32 → Int32 → Int32 → Int32 → Option (Int32 × Mem)) (hk25 : ∀ (u : Mem) (v1 : Int32) (v2 : Int32) (v3 : Int32) (v4 : Int32) (v5 : Int32) , k25 u v1 v2 v3 v4 v5 = some (r, u') → BW p l e s m below meth c 8 185 [.ref (a 0)] D (AM a) (some (.int r)) (wlM cc a u') 7 (wlM cc a u) 25 [(0, .ref (a 0)), (1, .int v1), (2, .int v2), (3, .int v3), (4, .int v4), (5, .int v5)] []) (u : Mem) (v1 : Int32) (v2 : Int32) (v3 : Int32) (v4 : Int32) (v5 : Int32) , F_X7_tell_116 k25 u v1 v2 v3 v4 v5 = some (r, u') → BW p l e s m below meth c 8 185 [.ref (a 0)] D (AM a) (some (.int r)) (wlM cc a u') 7 (wlM cc a u) 116 [(0, .ref (a 0)), (1, .int v1), (2, .int v2), (3, .int v3), (4, .int v4), (5, .int v5)] [] := by
    intro k25 hk25 u v1 v2 v3 v4 v5 hF H locs ls hP hD hS hl
    unfold F_X7_tell_116 at hF
    refine lv_inc1 (k := 5) (lv' := [(5, .int _), (0, .ref _), (1, .int _), (2, .int _), (3, .int _), (4, .int _)]) hx hb dX7_tell_116 hl rfl (by decide) rfl (fun ls hl => ?_)
    refine lv_goto (tgt := 25) hx hb dX7_tell_119 (by decide) ?_
    exact hk25 _ _ _ _ _ _  hF H locs ls hP hD hS (lv_sub hl [1, 2, 3, 4, 5, 0] rfl)
  have b114 : ∀ (k25 : Mem → Int32 → Int32 → Int32 → Int32 → Int32 → Option (Int32 × Mem)) (hk25 : ∀ (u : Mem) (v1 : Int32) (v2 : Int32) (v3 : Int32) (v4 : Int32) (v5 : Int32) , k25 u v1 v2 v3 v4 v5 = some (r, u') → BW p l e s m below meth c 8 185 [.ref (a 0)] D (AM a) (some (.int r)) (wlM cc a u') 7 (wlM cc a u) 25 [(0, .ref (a 0)), (1, .int v1), (2, .int v2), (3, .int v3), (4, .int v4), (5, .int v5)] []) (u : Mem) (v1 : Int32) (v2 : Int32) (v3 : Int32) (v5 : Int32) (y0 : Int32) , F_X7_tell_114 k25 u v1 v2 v3 v5 y0 = some (r, u') → BW p l e s m below meth c 8 185 [.ref (a 0)] D (AM a) (some (.int r)) (wlM cc a u') 7 (wlM cc a u) 114 [(0, .ref (a 0)), (1, .int v1), (2, .int v2), (3, .int v3), (5, .int v5)] [.int y0] := by
    intro k25 hk25 u v1 v2 v3 v5 y0 hF H locs ls hP hD hS hl
    unfold F_X7_tell_114 at hF
    refine lv_istore (lv' := [(4, .int _), (0, .ref _), (1, .int _), (2, .int _), (3, .int _), (5, .int _)]) hx hb dX7_tell_114 hl (by decide) rfl (fun ls hl => ?_)
    exact b116 _ hk25 _ _ _ _ _ _  hF H locs ls hP hD hS (lv_sub hl [1, 2, 3, 4, 0, 5] rfl)
  have b99 : ∀ (k25 : Mem → Int32 → Int32 → Int32 → Int32 → Int32 → Option (Int32 × Mem)) (hk25 : ∀ (u : Mem) (v1 : Int32) (v2 : Int32) (v3 : Int32) (v4 : Int32) (v5 : Int32) , k25 u v1 v2 v3 v4 v5 = some (r, u') → BW p l e s m below meth c 8 185 [.ref (a 0)] D (AM a) (some (.int r)) (wlM cc a u') 7 (wlM cc a u) 25 [(0, .ref (a 0)), (1, .int v1), (2, .int v2), (3, .int v3), (4, .int v4), (5, .int v5)] []) (u : Mem) (v1 : Int32) (v2 : Int32) (v4 : Int32) (v5 : Int32) (v6 : Int32) (y0 : Int32) , F_X7_tell_99 k25 u v1 v2 v4 v5 v6 y0 = some (r, u') → BW p l e s m below meth c 8 185 [.ref (a 0)] D (AM a) (some (.int r)) (wlM cc a u') 7 (wlM cc a u) 99 [(0, .ref (a 0)), (1, .int v1), (2, .int v2), (4, .int v4), (5, .int v5), (6, .int v6)] [.int y0] := by
    intro k25 hk25 u v1 v2 v4 v5 v6 y0 hF H locs ls hP hD hS hl
    unfold F_X7_tell_99 at hF
    refine lv_istore_n (lv' := [(3, .int _), (0, .ref _), (1, .int _), (2, .int _), (4, .int _), (5, .int _), (6, .int _)]) hx hb dX7_tell_99 rfl hl (by decide) rfl (fun ls hl => ?_)
    refine lv_iload hx hb dX7_tell_100 (lv_at hl 6 rfl) ?_
    refine lv_iload hx hb dX7_tell_102 (lv_at hl 4 rfl) ?_
    refine lv_icmp_le (tgt := 112) hx hb dX7_tell_104 (by decide) (fun c1 => ?_) (fun c1 => ?_)
    · have hF := ite_t hF c1
      refine lv_iload hx hb dX7_tell_112 (lv_at hl 4 rfl) ?_
      exact b114 _ hk25 _ _ _ _ _ _  hF H locs ls hP hD hS (lv_sub hl [1, 2, 3, 0, 5] rfl)
    · have hF := ite_f hF c1
      refine lv_iload hx hb dX7_tell_107 (lv_at hl 6 rfl) ?_
      refine lv_goto (tgt := 114) hx hb dX7_tell_109 (by decide) ?_
      exact b114 _ hk25 _ _ _ _ _ _  hF H locs ls hP hD hS (lv_sub hl [1, 2, 3, 0, 5] rfl)
  have b84 : ∀ (k25 : Mem → Int32 → Int32 → Int32 → Int32 → Int32 → Option (Int32 × Mem)) (hk25 : ∀ (u : Mem) (v1 : Int32) (v2 : Int32) (v3 : Int32) (v4 : Int32) (v5 : Int32) , k25 u v1 v2 v3 v4 v5 = some (r, u') → BW p l e s m below meth c 8 185 [.ref (a 0)] D (AM a) (some (.int r)) (wlM cc a u') 7 (wlM cc a u) 25 [(0, .ref (a 0)), (1, .int v1), (2, .int v2), (3, .int v3), (4, .int v4), (5, .int v5)] []) (u : Mem) (v1 : Int32) (v2 : Int32) (v3 : Int32) (v4 : Int32) (v5 : Int32) (y0 : Int32) , F_X7_tell_84 k25 u v1 v2 v3 v4 v5 y0 = some (r, u') → BW p l e s m below meth c 8 185 [.ref (a 0)] D (AM a) (some (.int r)) (wlM cc a u') 7 (wlM cc a u) 84 [(0, .ref (a 0)), (1, .int v1), (2, .int v2), (3, .int v3), (4, .int v4), (5, .int v5)] [.int y0] := by
    intro k25 hk25 u v1 v2 v3 v4 v5 y0 hF H locs ls hP hD hS hl
    unfold F_X7_tell_84 at hF
    refine lv_istore (lv' := [(6, .int _), (0, .ref _), (1, .int _), (2, .int _), (3, .int _), (4, .int _), (5, .int _)]) hx hb dX7_tell_84 hl (by decide) rfl (fun ls hl => ?_)
    refine lv_iload hx hb dX7_tell_86 (lv_at hl 0 rfl) ?_
    refine lv_iload hx hb dX7_tell_88 (lv_at hl 5 rfl) ?_
    refine lv_icmp_le (tgt := 98) hx hb dX7_tell_90 (by decide) (fun c2 => ?_) (fun c2 => ?_)
    · have hF := ite_t hF c2
      refine lv_iload_n hx hb dX7_tell_98 rfl (lv_at hl 4 rfl) ?_
      exact b99 _ hk25 _ _ _ _ _ _ _  hF H locs ls hP hD hS (lv_sub hl [1, 2, 3, 5, 6, 0] rfl)
    · have hF := ite_f hF c2
      refine lv_iload hx hb dX7_tell_93 (lv_at hl 6 rfl) ?_
      refine lv_goto (tgt := 99) hx hb dX7_tell_95 (by decide) ?_
      exact b99 _ hk25 _ _ _ _ _ _ _  hF H locs ls hP hD hS (lv_sub hl [1, 2, 3, 5, 6, 0] rfl)
  have b25 : ∀ (n : Nat) (u : Mem) (v1 : Int32) (v2 : Int32) (v3 : Int32) (v4 : Int32) (v5 : Int32) , F_X7_tell_25  n u v1 v2 v3 v4 v5 = some (r, u') → BW p l e s m below meth c 8 185 [.ref (a 0)] D (AM a) (some (.int r)) (wlM cc a u') 7 (wlM cc a u) 25 [(0, .ref (a 0)), (1, .int v1), (2, .int v2), (3, .int v3), (4, .int v4), (5, .int v5)] [] := by
    intro n
    induction n with
    | zero => intro u v1 v2 v3 v4 v5 hF; cases hF
    | succ n ih =>
      intro u v1 v2 v3 v4 v5 hF H locs ls hP hD hS hl
      unfold F_X7_tell_25 at hF
      refine lv_iload hx hb dX7_tell_25 (lv_at hl 5 rfl) ?_
      refine lv_aload_n hx hb dX7_tell_27 rfl (lv_at hl 0 rfl) ?_
      refine va_get_w S hK hP _ c_MO rfl igX7 0 (by decide) q879 rfl rfl dX7_tell_28 ?_
      refine lv_iconst (v := 0) hx hb dX7_tell_31 (by decide) ?_
      obtain ⟨hin3, hF⟩ := gd_some hF
      refine mIald S hK hP ⟨rfl, by decide⟩ rfl hin3 dX7_tell_32 ?_
      refine lv_icmp_ge (tgt := 122) hx hb dX7_tell_33 (by decide) (fun c4 => ?_) (fun c4 => ?_)
      · have hF := ite_t hF c4
        refine lv_iload_n hx hb dX7_tell_122 rfl (lv_at hl 3 rfl) ?_
        refine lv_if_ge (tgt := 135) hx hb dX7_tell_123 (by decide) (fun c5 => ?_) (fun c5 => ?_)
        · have hF := ite_t hF c5
          refine lv_iload_n hx hb dX7_tell_135 rfl (lv_at hl 3 rfl) ?_
          exact b136 _ _  hF H locs ls hP hD hS (lv_sub hl [] rfl)
        · have hF := ite_f hF c5
          refine lv_aload_n hx hb dX7_tell_126 rfl (lv_at hl 0 rfl) ?_
          refine lv_ldc hx hb hown (hts _ q1079) dX7_tell_127 ?_
          obtain ⟨r7, u6, e8, hF⟩ := bdI_some hF
          refine MM.callVi (m_X7_finds e8) k_X7_94 S emOK hEs hK ⟨by decide, by decide⟩ (va_recv hK hP rfl c_MO) rfl rfl hl.1 (Nat.le_of_ble_eq_true rfl) dX7_tell_129 ⟨Nat.le_refl _, Nat.le_refl _⟩ hP hD hS (fun H locs hP hD hS => ?_)
          refine lv_goto (tgt := 136) hx hb dX7_tell_132 (by decide) ?_
          exact b136 _ _  hF H locs ls hP hD hS (lv_sub hl [] rfl)
      · have hF := ite_f hF c4
        refine lv_aload_n hx hb dX7_tell_36 rfl (lv_at hl 0 rfl) ?_
        refine lv_iload hx hb dX7_tell_37 (lv_at hl 5 rfl) ?_
        refine lv_iconst (v := 3) hx hb dX7_tell_39 (by decide) ?_
        obtain ⟨r10, u9, e11, hF⟩ := bdI_some hF
        refine MM.callVi (m_X7_its e11) k_X7_68 S emOK hEs hK ⟨by decide, by decide⟩ (va_recv hK hP rfl c_MO) rfl rfl hl.1 (Nat.le_of_ble_eq_true rfl) dX7_tell_40 ⟨Nat.le_refl _, Nat.le_refl _⟩ hP hD hS (fun H locs hP hD hS => ?_)
        refine lv_if_ne (tgt := 116) hx hb dX7_tell_43 (by decide) (fun c12 => ?_) (fun c12 => ?_)
        · have hF := ite_f hF c12
          exact b116 _ ih _ _ _ _ _ _  hF H locs ls hP hD hS (lv_sub hl [0, 1, 2, 3, 4, 5] rfl)
        · have hF := ite_t hF c12
          refine lv_aload_n hx hb dX7_tell_46 rfl (lv_at hl 0 rfl) ?_
          refine lv_iload hx hb dX7_tell_47 (lv_at hl 5 rfl) ?_
          refine lv_iconst (v := 3) hx hb dX7_tell_49 (by decide) ?_
          refine lv_iconst (v := 1) hx hb dX7_tell_50 (by decide) ?_
          obtain ⟨u13, e15, hF⟩ := bdV_some hF
          refine MM.callVv (m_X7_sets e15) k_X7_86 S emOK hEs hK ⟨by decide, by decide⟩ (va_recv hK hP rfl c_MO) rfl rfl hl.1 (Nat.le_of_ble_eq_true rfl) dX7_tell_51 ⟨Nat.le_refl _, Nat.le_refl _⟩ hP hD hS (fun H locs hP hD hS => ?_)
          refine lv_aload_n hx hb dX7_tell_54 rfl (lv_at hl 0 rfl) ?_
          refine lv_iload_n hx hb dX7_tell_55 rfl (lv_at hl 1 rfl) ?_
          obtain ⟨r17, u16, e18, hF⟩ := bdI_some hF
          refine MM.callVi (m_X7_fewestOf e18) k_X7_168 S emOK hEs hK ⟨by decide, by decide⟩ (va_recv hK hP rfl c_MO) rfl rfl hl.1 (Nat.le_of_ble_eq_true rfl) dX7_tell_56 ⟨Nat.le_refl _, Nat.le_refl _⟩ hP hD hS (fun H locs hP hD hS => ?_)
          refine lv_iload_n hx hb dX7_tell_59 rfl (lv_at hl 2 rfl) ?_
          refine lv_isub hx hb dX7_tell_60 ?_
          refine lv_istore (lv' := [(6, .int _), (0, .ref _), (1, .int _), (2, .int _), (3, .int _), (4, .int _), (5, .int _)]) hx hb dX7_tell_61 hl (by decide) rfl (fun ls hl => ?_)
          refine lv_aload_n hx hb dX7_tell_63 rfl (lv_at hl 1 rfl) ?_
          refine lv_iload hx hb dX7_tell_64 (lv_at hl 6 rfl) ?_
          refine lv_iconst (v := 3) hx hb dX7_tell_66 (by decide) ?_
          refine lv_iconst (v := 0) hx hb dX7_tell_67 (by decide) ?_
          obtain ⟨u19, e21, hF⟩ := bdV_some hF
          refine MM.callVv (m_X7_sets e21) k_X7_86 S emOK hEs hK ⟨by decide, by decide⟩ (va_recv hK hP rfl c_MO) rfl rfl hl.1 (Nat.le_of_ble_eq_true rfl) dX7_tell_68 ⟨Nat.le_refl _, Nat.le_refl _⟩ hP hD hS (fun H locs hP hD hS => ?_)
          refine lv_iload hx hb dX7_tell_71 (lv_at hl 0 rfl) ?_
          refine lv_if_ge (tgt := 82) hx hb dX7_tell_73 (by decide) (fun c22 => ?_) (fun c22 => ?_)
          · have hF := ite_t hF c22
            refine lv_iload hx hb dX7_tell_82 (lv_at hl 0 rfl) ?_
            exact b84 _ ih _ _ _ _ _ _ _  hF H locs ls hP hD hS (lv_sub hl [1, 2, 3, 4, 5, 6] rfl)
          · have hF := ite_f hF c22
            refine lv_iload hx hb dX7_tell_76 (lv_at hl 0 rfl) ?_
            refine lv_ineg hx hb dX7_tell_78 ?_
            refine lv_goto (tgt := 84) hx hb dX7_tell_79 (by decide) ?_
            exact b84 _ ih _ _ _ _ _ _ _  hF H locs ls hP hD hS (lv_sub hl [1, 2, 3, 4, 5, 6] rfl)
  unfold F_X7_tell at hF
  have b_main : BW p l e s m below meth c 8 185 [.ref (a 0)] D (AM a) (some (.int r)) (wlM cc a u') 7 (wlM cc a u) 0 [(0, .ref (a 0))] [] := by
    intro H locs ls hP hD hS hl
    refine lv_iconst (v := 1) hx hb dX7_tell_0 (by decide) ?_
    refine lv_aload_n hx hb dX7_tell_1 rfl (lv_at hl 0 rfl) ?_
    refine va_get_w S hK hP _ c_MO rfl igX7 0 (by decide) q879 rfl rfl dX7_tell_2 ?_
    refine lv_iconst (v := 0) hx hb dX7_tell_5 (by decide) ?_
    obtain ⟨hin23, hF⟩ := gd_some hF
    refine mIald S hK hP ⟨rfl, by decide⟩ rfl hin23 dX7_tell_6 ?_
    refine lv_ishl hx hb dX7_tell_7 ?_
    refine lv_iconst (v := 1) hx hb dX7_tell_8 (by decide) ?_
    refine lv_isub hx hb dX7_tell_9 ?_
    refine lv_istore_n (lv' := [(1, .int _), (0, .ref _)]) hx hb dX7_tell_10 rfl hl (by decide) rfl (fun ls hl => ?_)
    refine lv_aload_n hx hb dX7_tell_11 rfl (lv_at hl 1 rfl) ?_
    refine lv_iload_n hx hb dX7_tell_12 rfl (lv_at hl 0 rfl) ?_
    obtain ⟨r25, u24, e26, hF⟩ := bdI_some hF
    refine MM.callVi (m_X7_fewestOf e26) k_X7_168 S emOK hEs hK ⟨by decide, by decide⟩ (va_recv hK hP rfl c_MO) rfl rfl hl.1 (Nat.le_of_ble_eq_true rfl) dX7_tell_13 ⟨Nat.le_refl _, Nat.le_refl _⟩ hP hD hS (fun H locs hP hD hS => ?_)
    refine lv_istore_n (lv' := [(2, .int _), (1, .int _), (0, .ref _)]) hx hb dX7_tell_16 rfl hl (by decide) rfl (fun ls hl => ?_)
    refine lv_iconst (v := -1) hx hb dX7_tell_17 (by decide) ?_
    refine lv_istore_n (lv' := [(3, .int _), (2, .int _), (1, .int _), (0, .ref _)]) hx hb dX7_tell_18 rfl hl (by decide) rfl (fun ls hl => ?_)
    refine lv_iconst (v := 0) hx hb dX7_tell_19 (by decide) ?_
    refine lv_istore (lv' := [(4, .int _), (3, .int _), (2, .int _), (1, .int _), (0, .ref _)]) hx hb dX7_tell_20 hl (by decide) rfl (fun ls hl => ?_)
    refine lv_iconst (v := 0) hx hb dX7_tell_22 (by decide) ?_
    refine lv_istore (lv' := [(5, .int _), (4, .int _), (3, .int _), (2, .int _), (1, .int _), (0, .ref _)]) hx hb dX7_tell_23 hl (by decide) rfl (fun ls hl => ?_)
    exact b25 _ _ _ _ _ _ _  hF H locs ls hP hD hS (lv_sub hl [5, 4, 3, 2, 1, 0] rfl)
  have hl := lv_entry ([.ref (a 0)]) (n := 7) (Nat.le_of_ble_eq_true rfl)
  rw [lg_entry_eq]
  generalize (lg_sl ([.ref (a 0)]) ++ List.replicate (7 - (lg_sl ([.ref (a 0)])).length) Slot.unset).toArray = ls at hl ⊢
  exact b_main _ _ _ hP hD hS hl

set_option maxRecDepth 100000 in
set_option maxHeartbeats 4000000 in
theorem m_X7_withHow  {x1 : Int32} {u u' : Mem} {r : Int32}  (hF : F_X7_withHow  u x1 = some (r, u')) : MR l D cc a yX7_withHow cX7_withHow 4 (some .int) 6 134 [.ref (a 0), .int x1] u (some (.int r)) u' := by
  refine MM.ofW (by decide) (fun p e s m below meth c S hr hlocks hK hEs hP hD hS => ?_)
  have S : CallFix p m c cX7_withHow 4 s _ gtbl RX7 := S
  obtain ⟨hx, hb, hml, hown, hts⟩ := id S
  have b38 : ∀ (k8 : Mem → Int32 → Int32 → Int32 → Option (Int32 × Mem)) (hk8 : ∀ (u : Mem) (v1 : Int32) (v2 : Int32) (v3 : Int32) , k8 u v1 v2 v3 = some (r, u') → BW p l e s m below meth c 6 134 [.ref (a 0), .int x1] D (AM a) (some (.int r)) (wlM cc a u') 4 (wlM cc a u) 8 [(0, .ref (a 0)), (1, .int v1), (2, .int v2), (3, .int v3)] []) (u : Mem) (v1 : Int32) (v3 : Int32) (y0 : Int32) (y1 : Int32) , F_X7_withHow_38 k8 u v1 v3 y0 y1 = some (r, u') → BW p l e s m below meth c 6 134 [.ref (a 0), .int x1] D (AM a) (some (.int r)) (wlM cc a u') 4 (wlM cc a u) 38 [(0, .ref (a 0)), (1, .int v1), (3, .int v3)] [.int y1, .int y0] := by
    intro k8 hk8 u v1 v3 y0 y1 hF H locs ls hP hD hS hl
    unfold F_X7_withHow_38 at hF
    refine lv_iadd hx hb dX7_withHow_38 ?_
    refine lv_istore_n (lv' := [(2, .int _), (0, .ref _), (1, .int _), (3, .int _)]) hx hb dX7_withHow_39 rfl hl (by decide) rfl (fun ls hl => ?_)
    refine lv_inc1 (k := 3) (lv' := [(3, .int _), (2, .int _), (0, .ref _), (1, .int _)]) hx hb dX7_withHow_40 hl rfl (by decide) rfl (fun ls hl => ?_)
    refine lv_goto (tgt := 8) hx hb dX7_withHow_43 (by decide) ?_
    exact hk8 _ _ _ _  hF H locs ls hP hD hS (lv_sub hl [2, 3, 1, 0] rfl)
  have b37 : ∀ (k8 : Mem → Int32 → Int32 → Int32 → Option (Int32 × Mem)) (hk8 : ∀ (u : Mem) (v1 : Int32) (v2 : Int32) (v3 : Int32) , k8 u v1 v2 v3 = some (r, u') → BW p l e s m below meth c 6 134 [.ref (a 0), .int x1] D (AM a) (some (.int r)) (wlM cc a u') 4 (wlM cc a u) 8 [(0, .ref (a 0)), (1, .int v1), (2, .int v2), (3, .int v3)] []) (u : Mem) (v1 : Int32) (v3 : Int32) (y0 : Int32) , F_X7_withHow_37 k8 u v1 v3 y0 = some (r, u') → BW p l e s m below meth c 6 134 [.ref (a 0), .int x1] D (AM a) (some (.int r)) (wlM cc a u') 4 (wlM cc a u) 37 [(0, .ref (a 0)), (1, .int v1), (3, .int v3)] [.int y0] := by
    intro k8 hk8 u v1 v3 y0 hF H locs ls hP hD hS hl
    unfold F_X7_withHow_37 at hF
    refine lv_iconst (v := 0) hx hb dX7_withHow_37 (by decide) ?_
    exact b38 _ hk8 _ _ _ _ _  hF H locs ls hP hD hS (lv_sub hl [0, 1, 2] rfl)
  have b8 : ∀ (n : Nat) (u : Mem) (v1 : Int32) (v2 : Int32) (v3 : Int32) , F_X7_withHow_8  n u v1 v2 v3 = some (r, u') → BW p l e s m below meth c 6 134 [.ref (a 0), .int x1] D (AM a) (some (.int r)) (wlM cc a u') 4 (wlM cc a u) 8 [(0, .ref (a 0)), (1, .int v1), (2, .int v2), (3, .int v3)] [] := by
    intro n
    induction n with
    | zero => intro u v1 v2 v3 hF; cases hF
    | succ n ih =>
      intro u v1 v2 v3 hF H locs ls hP hD hS hl
      unfold F_X7_withHow_8 at hF
      refine lv_iload_n hx hb dX7_withHow_8 rfl (lv_at hl 3 rfl) ?_
      refine lv_aload_n hx hb dX7_withHow_9 rfl (lv_at hl 0 rfl) ?_
      refine va_get_w S hK hP _ c_MO rfl igX7 0 (by decide) q879 rfl rfl dX7_withHow_10 ?_
      refine lv_iconst (v := 0) hx hb dX7_withHow_13 (by decide) ?_
      obtain ⟨hin1, hF⟩ := gd_some hF
      refine mIald S hK hP ⟨rfl, by decide⟩ rfl hin1 dX7_withHow_14 ?_
      refine lv_icmp_ge (tgt := 46) hx hb dX7_withHow_15 (by decide) (fun c2 => ?_) (fun c2 => ?_)
      · have hF := ite_t hF c2
        refine lv_iload_n hx hb dX7_withHow_46 rfl (lv_at hl 2 rfl) ?_
        obtain ⟨rfl, rfl⟩ := sp_eq hF
        exact retI S hr hlocks hP hD hS dX7_withHow_47
      · have hF := ite_f hF c2
        refine lv_iload_n hx hb dX7_withHow_18 rfl (lv_at hl 2 rfl) ?_
        refine lv_iload_n hx hb dX7_withHow_19 rfl (lv_at hl 3 rfl) ?_
        refine lv_iload_n hx hb dX7_withHow_20 rfl (lv_at hl 1 rfl) ?_
        refine lv_icmp_eq (tgt := 37) hx hb dX7_withHow_21 (by decide) (fun c3 => ?_) (fun c3 => ?_)
        · have hF := ite_t hF c3
          exact b37 _ ih _ _ _ _  hF H locs ls hP hD hS (lv_sub hl [0, 1, 3] rfl)
        · have hF := ite_f hF c3
          refine lv_aload_n hx hb dX7_withHow_24 rfl (lv_at hl 0 rfl) ?_
          refine lv_iload_n hx hb dX7_withHow_25 rfl (lv_at hl 1 rfl) ?_
          refine lv_iload_n hx hb dX7_withHow_26 rfl (lv_at hl 3 rfl) ?_
          obtain ⟨r5, u4, e6, hF⟩ := bdI_some hF
          refine MM.callVi (m_X7_areOfOne e6) k_X7_144 S emOK hEs hK ⟨by decide, by decide⟩ (va_recv hK hP rfl c_MO) rfl rfl hl.1 (Nat.le_of_ble_eq_true rfl) dX7_withHow_27 ⟨Nat.le_refl _, Nat.le_refl _⟩ hP hD hS (fun H locs hP hD hS => ?_)
          refine lv_if_eq (tgt := 37) hx hb dX7_withHow_30 (by decide) (fun c7 => ?_) (fun c7 => ?_)
          · have hF := ite_t hF c7
            exact b37 _ ih _ _ _ _  hF H locs ls hP hD hS (lv_sub hl [0, 1, 3] rfl)
          · have hF := ite_f hF c7
            refine lv_iconst (v := 1) hx hb dX7_withHow_33 (by decide) ?_
            refine lv_goto (tgt := 38) hx hb dX7_withHow_34 (by decide) ?_
            exact b38 _ ih _ _ _ _ _  hF H locs ls hP hD hS (lv_sub hl [0, 1, 3] rfl)
  unfold F_X7_withHow at hF
  have b_main : BW p l e s m below meth c 6 134 [.ref (a 0), .int x1] D (AM a) (some (.int r)) (wlM cc a u') 4 (wlM cc a u) 0 [(0, .ref (a 0)), (1, .int x1)] [] := by
    intro H locs ls hP hD hS hl
    refine lv_aload_n hx hb dX7_withHow_0 rfl (lv_at hl 0 rfl) ?_
    obtain ⟨u8, e10, hF⟩ := bdV_some hF
    refine MM.callVv (m_X7_findCan e10) k_X7_147 S emOK hEs hK ⟨by decide, by decide⟩ (va_recv hK hP rfl c_MO) rfl rfl hl.1 (Nat.le_of_ble_eq_true rfl) dX7_withHow_1 ⟨Nat.le_refl _, Nat.le_refl _⟩ hP hD hS (fun H locs hP hD hS => ?_)
    refine lv_iconst (v := 0) hx hb dX7_withHow_4 (by decide) ?_
    refine lv_istore_n (lv' := [(2, .int _), (0, .ref _), (1, .int _)]) hx hb dX7_withHow_5 rfl hl (by decide) rfl (fun ls hl => ?_)
    refine lv_iconst (v := 0) hx hb dX7_withHow_6 (by decide) ?_
    refine lv_istore_n (lv' := [(3, .int _), (2, .int _), (0, .ref _), (1, .int _)]) hx hb dX7_withHow_7 rfl hl (by decide) rfl (fun ls hl => ?_)
    exact b8 _ _ _ _ _  hF H locs ls hP hD hS (lv_sub hl [2, 3, 1, 0] rfl)
  have hl := lv_entry ([.ref (a 0), .int x1]) (n := 4) (Nat.le_of_ble_eq_true rfl)
  rw [lg_entry_eq]
  generalize (lg_sl ([.ref (a 0), .int x1]) ++ List.replicate (4 - (lg_sl ([.ref (a 0), .int x1])).length) Slot.unset).toArray = ls at hl ⊢
  exact b_main _ _ _ hP hD hS hl

set_option maxRecDepth 100000 in
set_option maxHeartbeats 4000000 in
theorem m_X7_kind  {x1 : Int32} {u u' : Mem} {r : Int32}  (hF : F_X7_kind  u x1 = some (r, u')) : MR l D cc a yX7_kind cX7_kind 7 (some .int) 7 157 [.ref (a 0), .int x1] u (some (.int r)) u' := by
  refine MM.ofW (by decide) (fun p e s m below meth c S hr hlocks hK hEs hP hD hS => ?_)
  have S : CallFix p m c cX7_kind 7 s _ gtbl RX7 := S
  obtain ⟨hx, hb, hml, hown, hts⟩ := id S
  have b79 : ∀ (k30 : Mem → Int32 → Int32 → Int32 → Int32 → Int32 → Option (Int32 × Mem)) (hk30 : ∀ (u : Mem) (v1 : Int32) (v2 : Int32) (v3 : Int32) (v4 : Int32) (v5 : Int32) , k30 u v1 v2 v3 v4 v5 = some (r, u') → BW p l e s m below meth c 7 157 [.ref (a 0), .int x1] D (AM a) (some (.int r)) (wlM cc a u') 7 (wlM cc a u) 30 [(0, .ref (a 0)), (1, .int v1), (2, .int v2), (3, .int v3), (4, .int v4), (5, .int v5)] []) (u : Mem) (v1 : Int32) (v2 : Int32) (v3 : Int32) (v5 : Int32) (y0 : Int32) , F_X7_kind_79 k30 u v1 v2 v3 v5 y0 = some (r, u') → BW p l e s m below meth c 7 157 [.ref (a 0), .int x1] D (AM a) (some (.int r)) (wlM cc a u') 7 (wlM cc a u) 79 [(0, .ref (a 0)), (1, .int v1), (2, .int v2), (3, .int v3), (5, .int v5)] [.int y0] := by
    intro k30 hk30 u v1 v2 v3 v5 y0 hF H locs ls hP hD hS hl
    unfold F_X7_kind_79 at hF
    refine lv_istore (lv' := [(4, .int _), (0, .ref _), (1, .int _), (2, .int _), (3, .int _), (5, .int _)]) hx hb dX7_kind_79 hl (by decide) rfl (fun ls hl => ?_)
    refine lv_inc1 (k := 5) (lv' := [(5, .int _), (4, .int _), (0, .ref _), (1, .int _), (2, .int _), (3, .int _)]) hx hb dX7_kind_81 hl rfl (by decide) rfl (fun ls hl => ?_)
    refine lv_goto (tgt := 30) hx hb dX7_kind_84 (by decide) ?_
    exact hk30 _ _ _ _ _ _  hF H locs ls hP hD hS (lv_sub hl [2, 3, 4, 5, 1, 0] rfl)
  have b64 : ∀ (k30 : Mem → Int32 → Int32 → Int32 → Int32 → Int32 → Option (Int32 × Mem)) (hk30 : ∀ (u : Mem) (v1 : Int32) (v2 : Int32) (v3 : Int32) (v4 : Int32) (v5 : Int32) , k30 u v1 v2 v3 v4 v5 = some (r, u') → BW p l e s m below meth c 7 157 [.ref (a 0), .int x1] D (AM a) (some (.int r)) (wlM cc a u') 7 (wlM cc a u) 30 [(0, .ref (a 0)), (1, .int v1), (2, .int v2), (3, .int v3), (4, .int v4), (5, .int v5)] []) (u : Mem) (v1 : Int32) (v2 : Int32) (v4 : Int32) (v5 : Int32) (v6 : Int32) (y0 : Int32) , F_X7_kind_64 k30 u v1 v2 v4 v5 v6 y0 = some (r, u') → BW p l e s m below meth c 7 157 [.ref (a 0), .int x1] D (AM a) (some (.int r)) (wlM cc a u') 7 (wlM cc a u) 64 [(0, .ref (a 0)), (1, .int v1), (2, .int v2), (4, .int v4), (5, .int v5), (6, .int v6)] [.int y0] := by
    intro k30 hk30 u v1 v2 v4 v5 v6 y0 hF H locs ls hP hD hS hl
    unfold F_X7_kind_64 at hF
    refine lv_istore_n (lv' := [(3, .int _), (0, .ref _), (1, .int _), (2, .int _), (4, .int _), (5, .int _), (6, .int _)]) hx hb dX7_kind_64 rfl hl (by decide) rfl (fun ls hl => ?_)
    refine lv_iload hx hb dX7_kind_65 (lv_at hl 6 rfl) ?_
    refine lv_iload hx hb dX7_kind_67 (lv_at hl 4 rfl) ?_
    refine lv_icmp_le (tgt := 77) hx hb dX7_kind_69 (by decide) (fun c1 => ?_) (fun c1 => ?_)
    · have hF := ite_t hF c1
      refine lv_iload hx hb dX7_kind_77 (lv_at hl 4 rfl) ?_
      exact b79 _ hk30 _ _ _ _ _ _  hF H locs ls hP hD hS (lv_sub hl [1, 2, 3, 0, 5] rfl)
    · have hF := ite_f hF c1
      refine lv_iload hx hb dX7_kind_72 (lv_at hl 6 rfl) ?_
      refine lv_goto (tgt := 79) hx hb dX7_kind_74 (by decide) ?_
      exact b79 _ hk30 _ _ _ _ _ _  hF H locs ls hP hD hS (lv_sub hl [1, 2, 3, 0, 5] rfl)
  have b30 : ∀ (n : Nat) (u : Mem) (v1 : Int32) (v2 : Int32) (v3 : Int32) (v4 : Int32) (v5 : Int32) , F_X7_kind_30  n u v1 v2 v3 v4 v5 = some (r, u') → BW p l e s m below meth c 7 157 [.ref (a 0), .int x1] D (AM a) (some (.int r)) (wlM cc a u') 7 (wlM cc a u) 30 [(0, .ref (a 0)), (1, .int v1), (2, .int v2), (3, .int v3), (4, .int v4), (5, .int v5)] [] := by
    intro n
    induction n with
    | zero => intro u v1 v2 v3 v4 v5 hF; cases hF
    | succ n ih =>
      intro u v1 v2 v3 v4 v5 hF H locs ls hP hD hS hl
      unfold F_X7_kind_30 at hF
      refine lv_iload hx hb dX7_kind_30 (lv_at hl 5 rfl) ?_
      refine lv_iconst (v := 5) hx hb dX7_kind_32 (by decide) ?_
      refine lv_icmp_gt (tgt := 87) hx hb dX7_kind_33 (by decide) (fun c2 => ?_) (fun c2 => ?_)
      · have hF := ite_t hF c2
        refine lv_aload_n hx hb dX7_kind_87 rfl (lv_at hl 0 rfl) ?_
        refine lv_iload_n hx hb dX7_kind_88 rfl (lv_at hl 1 rfl) ?_
        refine lv_iconst (v := 0) hx hb dX7_kind_89 (by decide) ?_
        refine lv_iload_n hx hb dX7_kind_90 rfl (lv_at hl 2 rfl) ?_
        obtain ⟨u3, e5, hF⟩ := bdV_some hF
        refine MM.callVv (m_X7_sets e5) k_X7_86 S emOK hEs hK ⟨by decide, by decide⟩ (va_recv hK hP rfl c_MO) rfl rfl hl.1 (Nat.le_of_ble_eq_true rfl) dX7_kind_91 ⟨Nat.le_refl _, Nat.le_refl _⟩ hP hD hS (fun H locs hP hD hS => ?_)
        refine lv_iload_n hx hb dX7_kind_94 rfl (lv_at hl 3 rfl) ?_
        obtain ⟨rfl, rfl⟩ := sp_eq hF
        exact retI S hr hlocks hP hD hS dX7_kind_95
      · have hF := ite_f hF c2
        refine lv_aload_n hx hb dX7_kind_36 rfl (lv_at hl 0 rfl) ?_
        refine lv_iload_n hx hb dX7_kind_37 rfl (lv_at hl 1 rfl) ?_
        refine lv_iconst (v := 0) hx hb dX7_kind_38 (by decide) ?_
        refine lv_iload hx hb dX7_kind_39 (lv_at hl 5 rfl) ?_
        obtain ⟨u6, e8, hF⟩ := bdV_some hF
        refine MM.callVv (m_X7_sets e8) k_X7_86 S emOK hEs hK ⟨by decide, by decide⟩ (va_recv hK hP rfl c_MO) rfl rfl hl.1 (Nat.le_of_ble_eq_true rfl) dX7_kind_41 ⟨Nat.le_refl _, Nat.le_refl _⟩ hP hD hS (fun H locs hP hD hS => ?_)
        refine lv_aload_n hx hb dX7_kind_44 rfl (lv_at hl 0 rfl) ?_
        refine lv_iload_n hx hb dX7_kind_45 rfl (lv_at hl 1 rfl) ?_
        obtain ⟨r10, u9, e11, hF⟩ := bdI_some hF
        refine MM.callVi (m_X7_withHow e11) k_X7_191 S emOK hEs hK ⟨by decide, by decide⟩ (va_recv hK hP rfl c_MO) rfl rfl hl.1 (Nat.le_of_ble_eq_true rfl) dX7_kind_46 ⟨Nat.le_refl _, Nat.le_refl _⟩ hP hD hS (fun H locs hP hD hS => ?_)
        refine lv_istore (lv' := [(6, .int _), (0, .ref _), (1, .int _), (2, .int _), (3, .int _), (4, .int _), (5, .int _)]) hx hb dX7_kind_49 hl (by decide) rfl (fun ls hl => ?_)
        refine lv_iload hx hb dX7_kind_51 (lv_at hl 0 rfl) ?_
        refine lv_iload hx hb dX7_kind_53 (lv_at hl 5 rfl) ?_
        refine lv_icmp_le (tgt := 63) hx hb dX7_kind_55 (by decide) (fun c12 => ?_) (fun c12 => ?_)
        · have hF := ite_t hF c12
          refine lv_iload_n hx hb dX7_kind_63 rfl (lv_at hl 4 rfl) ?_
          exact b64 _ ih _ _ _ _ _ _ _  hF H locs ls hP hD hS (lv_sub hl [1, 2, 3, 5, 6, 0] rfl)
        · have hF := ite_f hF c12
          refine lv_iload hx hb dX7_kind_58 (lv_at hl 6 rfl) ?_
          refine lv_goto (tgt := 64) hx hb dX7_kind_60 (by decide) ?_
          exact b64 _ ih _ _ _ _ _ _ _  hF H locs ls hP hD hS (lv_sub hl [1, 2, 3, 5, 6, 0] rfl)
  unfold F_X7_kind at hF
  have b_main : BW p l e s m below meth c 7 157 [.ref (a 0), .int x1] D (AM a) (some (.int r)) (wlM cc a u') 7 (wlM cc a u) 0 [(0, .ref (a 0)), (1, .int x1)] [] := by
    intro H locs ls hP hD hS hl
    refine lv_aload_n hx hb dX7_kind_0 rfl (lv_at hl 0 rfl) ?_
    refine lv_iload_n hx hb dX7_kind_1 rfl (lv_at hl 1 rfl) ?_
    obtain ⟨r14, u13, e15, hF⟩ := bdI_some hF
    refine MM.callVi (m_X7_isPrint e15) k_X7_103 S emOK hEs hK ⟨by decide, by decide⟩ (va_recv hK hP rfl c_MO) rfl rfl hl.1 (Nat.le_of_ble_eq_true rfl) dX7_kind_2 ⟨Nat.le_refl _, Nat.le_refl _⟩ hP hD hS (fun H locs hP hD hS => ?_)
    refine lv_if_ne (tgt := 15) hx hb dX7_kind_5 (by decide) (fun c16 => ?_) (fun c16 => ?_)
    · have hF := ite_f hF c16
      refine lv_aload_n hx hb dX7_kind_15 rfl (lv_at hl 0 rfl) ?_
      refine lv_iload_n hx hb dX7_kind_16 rfl (lv_at hl 1 rfl) ?_
      refine lv_iconst (v := 0) hx hb dX7_kind_17 (by decide) ?_
      obtain ⟨r18, u17, e19, hF⟩ := bdI_some hF
      refine MM.callVi (m_X7_its e19) k_X7_68 S emOK hEs hK ⟨by decide, by decide⟩ (va_recv hK hP rfl c_MO) rfl rfl hl.1 (Nat.le_of_ble_eq_true rfl) dX7_kind_18 ⟨Nat.le_refl _, Nat.le_refl _⟩ hP hD hS (fun H locs hP hD hS => ?_)
      refine lv_istore_n (lv' := [(2, .int _), (0, .ref _), (1, .int _)]) hx hb dX7_kind_21 rfl hl (by decide) rfl (fun ls hl => ?_)
      refine lv_iconst (v := 0) hx hb dX7_kind_22 (by decide) ?_
      refine lv_istore_n (lv' := [(3, .int _), (2, .int _), (0, .ref _), (1, .int _)]) hx hb dX7_kind_23 rfl hl (by decide) rfl (fun ls hl => ?_)
      refine lv_iconst (v := -1) hx hb dX7_kind_24 (by decide) ?_
      refine lv_istore (lv' := [(4, .int _), (3, .int _), (2, .int _), (0, .ref _), (1, .int _)]) hx hb dX7_kind_25 hl (by decide) rfl (fun ls hl => ?_)
      refine lv_iconst (v := 0) hx hb dX7_kind_27 (by decide) ?_
      refine lv_istore (lv' := [(5, .int _), (4, .int _), (3, .int _), (2, .int _), (0, .ref _), (1, .int _)]) hx hb dX7_kind_28 hl (by decide) rfl (fun ls hl => ?_)
      exact b30 _ _ _ _ _ _ _  hF H locs ls hP hD hS (lv_sub hl [4, 5, 3, 2, 1, 0] rfl)
    · have hF := ite_t hF c16
      refine lv_aload_n hx hb dX7_kind_8 rfl (lv_at hl 0 rfl) ?_
      refine lv_ldc hx hb hown (hts _ q966) dX7_kind_9 ?_
      obtain ⟨r21, u20, e22, hF⟩ := bdI_some hF
      refine MM.callVi (m_X7_finds e22) k_X7_94 S emOK hEs hK ⟨by decide, by decide⟩ (va_recv hK hP rfl c_MO) rfl rfl hl.1 (Nat.le_of_ble_eq_true rfl) dX7_kind_11 ⟨Nat.le_refl _, Nat.le_refl _⟩ hP hD hS (fun H locs hP hD hS => ?_)
      obtain ⟨rfl, rfl⟩ := sp_eq hF
      exact retI S hr hlocks hP hD hS dX7_kind_14
  have hl := lv_entry ([.ref (a 0), .int x1]) (n := 7) (Nat.le_of_ble_eq_true rfl)
  rw [lg_entry_eq]
  generalize (lg_sl ([.ref (a 0), .int x1]) ++ List.replicate (7 - (lg_sl ([.ref (a 0), .int x1])).length) Slot.unset).toArray = ls at hl ⊢
  exact b_main _ _ _ hP hD hS hl

set_option maxRecDepth 100000 in
set_option maxHeartbeats 4000000 in
theorem m_X7_pairs   {u u' : Mem} {r : Int32}  (hF : F_X7_pairs  u  = some (r, u')) : MR l D cc a yX7_pairs cX7_pairs 3 (some .int) 7 157 [.ref (a 0)] u (some (.int r)) u' := by
  refine MM.ofW (by decide) (fun p e s m below meth c S hr hlocks hK hEs hP hD hS => ?_)
  have S : CallFix p m c cX7_pairs 3 s _ gtbl RX7 := S
  obtain ⟨hx, hb, hml, hown, hts⟩ := id S
  have b4 : ∀ (n : Nat) (u : Mem) (v1 : Int32) (v2 : Int32) , F_X7_pairs_4  n u v1 v2 = some (r, u') → BW p l e s m below meth c 7 157 [.ref (a 0)] D (AM a) (some (.int r)) (wlM cc a u') 3 (wlM cc a u) 4 [(0, .ref (a 0)), (1, .int v1), (2, .int v2)] [] := by
    intro n
    induction n with
    | zero => intro u v1 v2 hF; cases hF
    | succ n ih =>
      intro u v1 v2 hF H locs ls hP hD hS hl
      unfold F_X7_pairs_4 at hF
      refine lv_iload_n hx hb dX7_pairs_4 rfl (lv_at hl 2 rfl) ?_
      refine lv_aload_n hx hb dX7_pairs_5 rfl (lv_at hl 0 rfl) ?_
      refine va_get_w S hK hP _ c_MO rfl igX7 0 (by decide) q879 rfl rfl dX7_pairs_6 ?_
      refine lv_iconst (v := 0) hx hb dX7_pairs_9 (by decide) ?_
      obtain ⟨hin1, hF⟩ := gd_some hF
      refine mIald S hK hP ⟨rfl, by decide⟩ rfl hin1 dX7_pairs_10 ?_
      refine lv_icmp_ge (tgt := 28) hx hb dX7_pairs_11 (by decide) (fun c2 => ?_) (fun c2 => ?_)
      · have hF := ite_t hF c2
        refine lv_iload_n hx hb dX7_pairs_28 rfl (lv_at hl 1 rfl) ?_
        refine lv_iconst (v := 2) hx hb dX7_pairs_29 (by decide) ?_
        refine lv_idiv hx hb dX7_pairs_30 (by decide) ?_
        obtain ⟨rfl, rfl⟩ := sp_eq hF
        exact retI S hr hlocks hP hD hS dX7_pairs_31
      · have hF := ite_f hF c2
        refine lv_iload_n hx hb dX7_pairs_14 rfl (lv_at hl 1 rfl) ?_
        refine lv_aload_n hx hb dX7_pairs_15 rfl (lv_at hl 0 rfl) ?_
        refine lv_iload_n hx hb dX7_pairs_16 rfl (lv_at hl 2 rfl) ?_
        obtain ⟨r4, u3, e5, hF⟩ := bdI_some hF
        refine MM.callVi (m_X7_withHow e5) k_X7_191 S emOK hEs hK ⟨by decide, by decide⟩ (va_recv hK hP rfl c_MO) rfl rfl hl.1 (Nat.le_of_ble_eq_true rfl) dX7_pairs_17 ⟨Nat.le_refl _, Nat.le_refl _⟩ hP hD hS (fun H locs hP hD hS => ?_)
        refine lv_iadd hx hb dX7_pairs_20 ?_
        refine lv_istore_n (lv' := [(1, .int _), (0, .ref _), (2, .int _)]) hx hb dX7_pairs_21 rfl hl (by decide) rfl (fun ls hl => ?_)
        refine lv_inc1 (k := 2) (lv' := [(2, .int _), (1, .int _), (0, .ref _)]) hx hb dX7_pairs_22 hl rfl (by decide) rfl (fun ls hl => ?_)
        refine lv_goto (tgt := 4) hx hb dX7_pairs_25 (by decide) ?_
        exact ih _ _ _  hF H locs ls hP hD hS (lv_sub hl [2, 1, 0] rfl)
  unfold F_X7_pairs at hF
  have b_main : BW p l e s m below meth c 7 157 [.ref (a 0)] D (AM a) (some (.int r)) (wlM cc a u') 3 (wlM cc a u) 0 [(0, .ref (a 0))] [] := by
    intro H locs ls hP hD hS hl
    refine lv_iconst (v := 0) hx hb dX7_pairs_0 (by decide) ?_
    refine lv_istore_n (lv' := [(1, .int _), (0, .ref _)]) hx hb dX7_pairs_1 rfl hl (by decide) rfl (fun ls hl => ?_)
    refine lv_iconst (v := 0) hx hb dX7_pairs_2 (by decide) ?_
    refine lv_istore_n (lv' := [(2, .int _), (1, .int _), (0, .ref _)]) hx hb dX7_pairs_3 rfl hl (by decide) rfl (fun ls hl => ?_)
    exact b4 _ _ _ _  hF H locs ls hP hD hS (lv_sub hl [2, 1, 0] rfl)
  have hl := lv_entry ([.ref (a 0)]) (n := 3) (Nat.le_of_ble_eq_true rfl)
  rw [lg_entry_eq]
  generalize (lg_sl ([.ref (a 0)]) ++ List.replicate (3 - (lg_sl ([.ref (a 0)])).length) Slot.unset).toArray = ls at hl ⊢
  exact b_main _ _ _ hP hD hS hl

set_option maxRecDepth 100000 in
set_option maxHeartbeats 4000000 in
theorem m_X7_feed  {x1 : Int32} {x2 : Int32} {u u' : Mem} {r : Int32}  (hF : F_X7_feed  u x1 x2 = some (r, u')) : MR l D cc a yX7_feed cX7_feed 4 (some .int) 1 22 [.ref (a 0), .int x1, .int x2] u (some (.int r)) u' := by
  refine MM.ofW (by decide) (fun p e s m below meth c S hr hlocks hK hEs hP hD hS => ?_)
  have S : CallFix p m c cX7_feed 4 s _ gtbl RX7 := S
  obtain ⟨hx, hb, hml, hown, hts⟩ := id S
  have b38 : ∀ (n : Nat) (u : Mem) (v1 : Int32) (v3 : Int32) , F_X7_feed_38  n u v1 v3 = some (r, u') → BW p l e s m below meth c 1 22 [.ref (a 0), .int x1, .int x2] D (AM a) (some (.int r)) (wlM cc a u') 4 (wlM cc a u) 38 [(0, .ref (a 0)), (1, .int v1), (3, .int v3)] [] := by
    intro n
    induction n with
    | zero => intro u v1 v3 hF; cases hF
    | succ n ih =>
      intro u v1 v3 hF H locs ls hP hD hS hl
      unfold F_X7_feed_38 at hF
      refine lv_iload_n hx hb dX7_feed_38 rfl (lv_at hl 2 rfl) ?_
      refine lv_if_lt (tgt := 77) hx hb dX7_feed_39 (by decide) (fun c1 => ?_) (fun c1 => ?_)
      · have hF := ite_t hF c1
        refine lv_aload_n hx hb dX7_feed_77 rfl (lv_at hl 0 rfl) ?_
        refine va_get_w S hK hP _ c_MO rfl igX7 9 (by decide) q888 rfl rfl dX7_feed_78 ?_
        obtain ⟨rfl, rfl⟩ := sp_eq hF
        exact retI S hr hlocks hP hD hS dX7_feed_81
      · have hF := ite_f hF c1
        refine lv_aload_n hx hb dX7_feed_42 rfl (lv_at hl 0 rfl) ?_
        refine va_get_w S hK hP _ c_MO rfl igX7 8 (by decide) q887 rfl rfl dX7_feed_43 ?_
        refine lv_aload_n hx hb dX7_feed_46 rfl (lv_at hl 0 rfl) ?_
        refine va_get_w S hK hP _ c_MO rfl igX7 9 (by decide) q888 rfl rfl dX7_feed_47 ?_
        refine lv_iload_n hx hb dX7_feed_50 rfl (lv_at hl 1 rfl) ?_
        refine lv_bipush (v := 8) hx hb dX7_feed_51 (by decide) ?_
        refine lv_iload_n hx hb dX7_feed_53 rfl (lv_at hl 2 rfl) ?_
        refine lv_imul hx hb dX7_feed_54 ?_
        refine lv_ishr hx hb dX7_feed_55 ?_
        refine lv_sipush (v := 255) hx hb dX7_feed_56 (by decide) ?_
        refine lv_iand hx hb dX7_feed_59 ?_
        obtain ⟨hin2, hF⟩ := gd_some hF
        refine mIast S hK hP hD hS ⟨rfl, by decide⟩ rfl hin2 dX7_feed_60 (fun H locs hP hD hS => ?_)
        obtain ⟨u3, e4, hF⟩ := bdV_some hF
        obtain rfl := sv_eq e4
        refine lv_aload_n hx hb dX7_feed_61 rfl (lv_at hl 0 rfl) ?_
        refine lv_dup hx hb dX7_feed_62 rfl ?_
        refine va_get_w S hK hP _ c_MO rfl igX7 9 (by decide) q888 rfl rfl dX7_feed_63 ?_
        refine lv_iconst (v := 1) hx hb dX7_feed_66 (by decide) ?_
        refine lv_iadd hx hb dX7_feed_67 ?_
        refine va_put_w S igX7 tyX7 tyX7_ok nmX7 hK hP hD hS _ c_MO rfl 9 (by decide) q888 rfl rfl (tyX7_ok 9 (by decide)) rfl rfl (Nat.le_of_ble_eq_true rfl) (z_MO (by decide)) dX7_feed_68 (fun H locs hP hD hS => ?_)
        refine lv_incm (k := 2) (lv' := [(3, .int _), (0, .ref _), (1, .int _)]) hx hb dX7_feed_71 hl rfl (by decide) rfl (fun ls hl => ?_)
        refine lv_goto (tgt := 38) hx hb dX7_feed_74 (by decide) ?_
        exact ih _ _ _  hF H locs ls hP hD hS (lv_sub hl [1, 2, 0] rfl)
  unfold F_X7_feed at hF
  have b_main : BW p l e s m below meth c 1 22 [.ref (a 0), .int x1, .int x2] D (AM a) (some (.int r)) (wlM cc a u') 4 (wlM cc a u) 0 [(0, .ref (a 0)), (1, .int x1), (2, .int x2)] [] := by
    intro H locs ls hP hD hS hl
    refine lv_iload_n hx hb dX7_feed_0 rfl (lv_at hl 2 rfl) ?_
    refine lv_iconst (v := 1) hx hb dX7_feed_1 (by decide) ?_
    refine lv_iconst (v := 4) hx hb dX7_feed_2 (by decide) ?_
    obtain ⟨r6, u5, e7, hF⟩ := bdI_some hF
    refine MM.callSi (m_X7_in e7) k_X7_64 S emOK hEs hK ⟨by decide, by decide⟩ rfl rfl hl.1 (Nat.le_of_ble_eq_true rfl) dX7_feed_3 ⟨Nat.le_refl _, Nat.le_refl _⟩ hP hD hS (fun H locs hP hD hS => ?_)
    refine lv_if_ne (tgt := 16) hx hb dX7_feed_6 (by decide) (fun c8 => ?_) (fun c8 => ?_)
    · have hF := ite_f hF c8
      refine lv_aload_n hx hb dX7_feed_16 rfl (lv_at hl 0 rfl) ?_
      refine va_get_w S hK hP _ c_MO rfl igX7 9 (by decide) q888 rfl rfl dX7_feed_17 ?_
      refine lv_iload_n hx hb dX7_feed_20 rfl (lv_at hl 2 rfl) ?_
      refine lv_iadd hx hb dX7_feed_21 ?_
      refine lv_bipush (v := 120) hx hb dX7_feed_22 (by decide) ?_
      refine lv_icmp_le (tgt := 34) hx hb dX7_feed_24 (by decide) (fun c9 => ?_) (fun c9 => ?_)
      · have hF := ite_t hF c9
        refine lv_iload_n hx hb dX7_feed_34 rfl (lv_at hl 2 rfl) ?_
        refine lv_iconst (v := 1) hx hb dX7_feed_35 (by decide) ?_
        refine lv_isub hx hb dX7_feed_36 ?_
        refine lv_istore_n (lv' := [(3, .int _), (0, .ref _), (1, .int _), (2, .int _)]) hx hb dX7_feed_37 rfl hl (by decide) rfl (fun ls hl => ?_)
        exact b38 _ _ _ _  hF H locs ls hP hD hS (lv_sub hl [1, 2, 0] rfl)
      · have hF := ite_f hF c9
        refine lv_aload_n hx hb dX7_feed_27 rfl (lv_at hl 0 rfl) ?_
        refine lv_ldc hx hb hown (hts _ q971) dX7_feed_28 ?_
        obtain ⟨r11, u10, e12, hF⟩ := bdI_some hF
        refine MM.callVi (m_X7_finds e12) k_X7_94 S emOK hEs hK ⟨by decide, by decide⟩ (va_recv hK hP rfl c_MO) rfl rfl hl.1 (Nat.le_of_ble_eq_true rfl) dX7_feed_30 ⟨Nat.le_refl _, Nat.le_refl _⟩ hP hD hS (fun H locs hP hD hS => ?_)
        obtain ⟨rfl, rfl⟩ := sp_eq hF
        exact retI S hr hlocks hP hD hS dX7_feed_33
    · have hF := ite_t hF c8
      refine lv_aload_n hx hb dX7_feed_9 rfl (lv_at hl 0 rfl) ?_
      refine lv_ldc hx hb hown (hts _ q966) dX7_feed_10 ?_
      obtain ⟨r14, u13, e15, hF⟩ := bdI_some hF
      refine MM.callVi (m_X7_finds e15) k_X7_94 S emOK hEs hK ⟨by decide, by decide⟩ (va_recv hK hP rfl c_MO) rfl rfl hl.1 (Nat.le_of_ble_eq_true rfl) dX7_feed_12 ⟨Nat.le_refl _, Nat.le_refl _⟩ hP hD hS (fun H locs hP hD hS => ?_)
      obtain ⟨rfl, rfl⟩ := sp_eq hF
      exact retI S hr hlocks hP hD hS dX7_feed_15
  have hl := lv_entry ([.ref (a 0), .int x1, .int x2]) (n := 4) (Nat.le_of_ble_eq_true rfl)
  rw [lg_entry_eq]
  generalize (lg_sl ([.ref (a 0), .int x1, .int x2]) ++ List.replicate (4 - (lg_sl ([.ref (a 0), .int x1, .int x2])).length) Slot.unset).toArray = ls at hl ⊢
  exact b_main _ _ _ hP hD hS hl

set_option maxRecDepth 100000 in
set_option maxHeartbeats 4000000 in
theorem m_X7_wipe   {u u' : Mem} {r : Int32}  (hF : F_X7_wipe  u  = some (r, u')) : MR l D cc a yX7_wipe cX7_wipe 2 (some .int) 0 0 [.ref (a 0)] u (some (.int r)) u' := by
  refine MM.ofW (by decide) (fun p e s m below meth c S hr hlocks hK hEs hP hD hS => ?_)
  have S : CallFix p m c cX7_wipe 2 s _ gtbl RX7 := S
  obtain ⟨hx, hb, hml, hown, hts⟩ := id S
  unfold F_X7_wipe at hF
  have b_main : BW p l e s m below meth c 0 0 [.ref (a 0)] D (AM a) (some (.int r)) (wlM cc a u') 2 (wlM cc a u) 0 [(0, .ref (a 0))] [] := by
    intro H locs ls hP hD hS hl
    refine lv_aload_n hx hb dX7_wipe_0 rfl (lv_at hl 0 rfl) ?_
    refine va_get_w S hK hP _ c_MO rfl igX7 9 (by decide) q888 rfl rfl dX7_wipe_1 ?_
    refine lv_istore_n (lv' := [(1, .int _), (0, .ref _)]) hx hb dX7_wipe_4 rfl hl (by decide) rfl (fun ls hl => ?_)
    refine lv_aload_n hx hb dX7_wipe_5 rfl (lv_at hl 1 rfl) ?_
    refine lv_iconst (v := 0) hx hb dX7_wipe_6 (by decide) ?_
    refine va_put_w S igX7 tyX7 tyX7_ok nmX7 hK hP hD hS _ c_MO rfl 9 (by decide) q888 rfl rfl (tyX7_ok 9 (by decide)) rfl rfl (Nat.le_of_ble_eq_true rfl) (z_MO (by decide)) dX7_wipe_7 (fun H locs hP hD hS => ?_)
    refine lv_iload_n hx hb dX7_wipe_10 rfl (lv_at hl 0 rfl) ?_
    obtain ⟨rfl, rfl⟩ := sp_eq hF
    exact retI S hr hlocks hP hD hS dX7_wipe_11
  have hl := lv_entry ([.ref (a 0)]) (n := 2) (Nat.le_of_ble_eq_true rfl)
  rw [lg_entry_eq]
  generalize (lg_sl ([.ref (a 0)]) ++ List.replicate (2 - (lg_sl ([.ref (a 0)])).length) Slot.unset).toArray = ls at hl ⊢
  exact b_main _ _ _ hP hD hS hl

set_option maxRecDepth 100000 in
set_option maxHeartbeats 4000000 in
theorem m_X7_moveAll  {x1 : Int32} {x2 : Nat} {x3 : Nat} {u u' : Mem} (hx2 : kdM x2 = 8 ∧ x2 < 18) (hx3 : kdM x3 = 9 ∧ x3 < 18) (hF : F_X7_moveAll  u x1 x2 x3 = some u') : MR l D cc a yX7_moveAll cX7_moveAll 5 none 0 0 [.ref (a 0), .int x1, .ref (a x2), .ref (a x3)] u none u' := by
  refine MM.ofW (by decide) (fun p e s m below meth c S hr hlocks hK hEs hP hD hS => ?_)
  have S : CallFix p m c cX7_moveAll 5 s _ gtbl RX7 := S
  obtain ⟨hx, hb, hml, hown, hts⟩ := id S
  have b84 : ∀ (k48 : Mem → Int32 → Nat → Int32 → Option Mem) (hk48 : ∀ (u : Mem) (v1 : Int32) (v3 : Nat) (v4 : Int32) (hv3 : kdM v3 = 9 ∧ v3 < 18), k48 u v1 v3 v4 = some u' → BW p l e s m below meth c 0 0 [.ref (a 0), .int x1, .ref (a x2), .ref (a x3)] D (AM a) none (wlM cc a u') 5 (wlM cc a u) 48 [(0, .ref (a 0)), (1, .int v1), (3, .ref (a v3)), (4, .int v4)] []) (u : Mem) (v1 : Int32) (v3 : Nat) (v4 : Int32) (hv3 : kdM v3 = 9 ∧ v3 < 18), F_X7_moveAll_84 k48 u v1 v3 v4 = some u' → BW p l e s m below meth c 0 0 [.ref (a 0), .int x1, .ref (a x2), .ref (a x3)] D (AM a) none (wlM cc a u') 5 (wlM cc a u) 84 [(0, .ref (a 0)), (1, .int v1), (3, .ref (a v3)), (4, .int v4)] [] := by
    intro k48 hk48 u v1 v3 v4 hv3 hF H locs ls hP hD hS hl
    unfold F_X7_moveAll_84 at hF
    refine lv_inc1 (k := 3) (lv' := [(4, .int _), (0, .ref _), (1, .int _), (3, .ref _)]) hx hb dX7_moveAll_84 hl rfl (by decide) rfl (fun ls hl => ?_)
    refine lv_goto (tgt := 48) hx hb dX7_moveAll_87 (by decide) ?_
    exact hk48 _ _ _ _ hv3 hF H locs ls hP hD hS (lv_sub hl [1, 2, 3, 0] rfl)
  have b48 : ∀ (n : Nat) (u : Mem) (v1 : Int32) (v3 : Nat) (v4 : Int32) (hv3 : kdM v3 = 9 ∧ v3 < 18), F_X7_moveAll_48  n u v1 v3 v4 = some u' → BW p l e s m below meth c 0 0 [.ref (a 0), .int x1, .ref (a x2), .ref (a x3)] D (AM a) none (wlM cc a u') 5 (wlM cc a u) 48 [(0, .ref (a 0)), (1, .int v1), (3, .ref (a v3)), (4, .int v4)] [] := by
    intro n
    induction n with
    | zero => intro u v1 v3 v4 hv3 hF; cases hF
    | succ n ih =>
      intro u v1 v3 v4 hv3 hF H locs ls hP hD hS hl
      unfold F_X7_moveAll_48 at hF
      refine lv_iload hx hb dX7_moveAll_48 (lv_at hl 3 rfl) ?_
      refine lv_bipush (v := 12) hx hb dX7_moveAll_50 (by decide) ?_
      refine lv_icmp_ge (tgt := 90) hx hb dX7_moveAll_52 (by decide) (fun c1 => ?_) (fun c1 => ?_)
      · have hF := ite_t hF c1
        obtain rfl := sv_eq hF
        exact retV S hr hlocks hP hD hS dX7_moveAll_90
      · have hF := ite_f hF c1
        refine lv_iload_n hx hb dX7_moveAll_55 rfl (lv_at hl 1 rfl) ?_
        refine lv_if_eq (tgt := 73) hx hb dX7_moveAll_56 (by decide) (fun c2 => ?_) (fun c2 => ?_)
        · have hF := ite_t hF c2
          refine lv_aload_n hx hb dX7_moveAll_73 rfl (lv_at hl 0 rfl) ?_
          refine va_get_w S hK hP _ c_MO rfl igX7 1 (by decide) q880 rfl rfl dX7_moveAll_74 ?_
          refine lv_iload hx hb dX7_moveAll_77 (lv_at hl 3 rfl) ?_
          refine lv_aload_n hx hb dX7_moveAll_79 rfl (lv_at hl 2 rfl) ?_
          refine lv_iload hx hb dX7_moveAll_80 (lv_at hl 3 rfl) ?_
          obtain ⟨hin3, hF⟩ := gd_some hF
          refine mLald S hK hP hv3 rfl hin3 dX7_moveAll_82 ?_
          obtain ⟨hin4, hF⟩ := gd_some hF
          refine mLast S hK hP hD hS ⟨rfl, by decide⟩ rfl hin4 dX7_moveAll_83 (fun H locs hP hD hS => ?_)
          exact b84 _ ih _ _ _ _ hv3 hF H locs ls hP hD hS (lv_sub hl [0, 1, 2, 3] rfl)
        · have hF := ite_f hF c2
          refine lv_aload_n hx hb dX7_moveAll_59 rfl (lv_at hl 2 rfl) ?_
          refine lv_iload hx hb dX7_moveAll_60 (lv_at hl 3 rfl) ?_
          refine lv_aload_n hx hb dX7_moveAll_62 rfl (lv_at hl 0 rfl) ?_
          refine va_get_w S hK hP _ c_MO rfl igX7 1 (by decide) q880 rfl rfl dX7_moveAll_63 ?_
          refine lv_iload hx hb dX7_moveAll_66 (lv_at hl 3 rfl) ?_
          obtain ⟨hin5, hF⟩ := gd_some hF
          refine mLald S hK hP ⟨rfl, by decide⟩ rfl hin5 dX7_moveAll_68 ?_
          obtain ⟨hin6, hF⟩ := gd_some hF
          refine mLast S hK hP hD hS hv3 rfl hin6 dX7_moveAll_69 (fun H locs hP hD hS => ?_)
          refine lv_goto (tgt := 84) hx hb dX7_moveAll_70 (by decide) ?_
          exact b84 _ ih _ _ _ _ hv3 hF H locs ls hP hD hS (lv_sub hl [0, 1, 2, 3] rfl)
  have b39 : ∀ (k3 : Mem → Int32 → Nat → Nat → Int32 → Option Mem) (hk3 : ∀ (u : Mem) (v1 : Int32) (v2 : Nat) (v3 : Nat) (v4 : Int32) (hv2 : kdM v2 = 8 ∧ v2 < 18) (hv3 : kdM v3 = 9 ∧ v3 < 18), k3 u v1 v2 v3 v4 = some u' → BW p l e s m below meth c 0 0 [.ref (a 0), .int x1, .ref (a x2), .ref (a x3)] D (AM a) none (wlM cc a u') 5 (wlM cc a u) 3 [(0, .ref (a 0)), (1, .int v1), (2, .ref (a v2)), (3, .ref (a v3)), (4, .int v4)] []) (u : Mem) (v1 : Int32) (v2 : Nat) (v3 : Nat) (v4 : Int32) (hv2 : kdM v2 = 8 ∧ v2 < 18) (hv3 : kdM v3 = 9 ∧ v3 < 18), F_X7_moveAll_39 k3 u v1 v2 v3 v4 = some u' → BW p l e s m below meth c 0 0 [.ref (a 0), .int x1, .ref (a x2), .ref (a x3)] D (AM a) none (wlM cc a u') 5 (wlM cc a u) 39 [(0, .ref (a 0)), (1, .int v1), (2, .ref (a v2)), (3, .ref (a v3)), (4, .int v4)] [] := by
    intro k3 hk3 u v1 v2 v3 v4 hv2 hv3 hF H locs ls hP hD hS hl
    unfold F_X7_moveAll_39 at hF
    refine lv_inc1 (k := 4) (lv' := [(4, .int _), (0, .ref _), (1, .int _), (2, .ref _), (3, .ref _)]) hx hb dX7_moveAll_39 hl rfl (by decide) rfl (fun ls hl => ?_)
    refine lv_goto (tgt := 3) hx hb dX7_moveAll_42 (by decide) ?_
    exact hk3 _ _ _ _ _ hv2 hv3 hF H locs ls hP hD hS (lv_sub hl [1, 2, 3, 4, 0] rfl)
  have b3 : ∀ (n : Nat) (u : Mem) (v1 : Int32) (v2 : Nat) (v3 : Nat) (v4 : Int32) (hv2 : kdM v2 = 8 ∧ v2 < 18) (hv3 : kdM v3 = 9 ∧ v3 < 18), F_X7_moveAll_3  n u v1 v2 v3 v4 = some u' → BW p l e s m below meth c 0 0 [.ref (a 0), .int x1, .ref (a x2), .ref (a x3)] D (AM a) none (wlM cc a u') 5 (wlM cc a u) 3 [(0, .ref (a 0)), (1, .int v1), (2, .ref (a v2)), (3, .ref (a v3)), (4, .int v4)] [] := by
    intro n
    induction n with
    | zero => intro u v1 v2 v3 v4 hv2 hv3 hF; cases hF
    | succ n ih =>
      intro u v1 v2 v3 v4 hv2 hv3 hF H locs ls hP hD hS hl
      unfold F_X7_moveAll_3 at hF
      refine lv_iload hx hb dX7_moveAll_3 (lv_at hl 4 rfl) ?_
      refine lv_bipush (v := 50) hx hb dX7_moveAll_5 (by decide) ?_
      refine lv_icmp_ge (tgt := 45) hx hb dX7_moveAll_7 (by decide) (fun c7 => ?_) (fun c7 => ?_)
      · have hF := ite_t hF c7
        refine lv_iconst (v := 0) hx hb dX7_moveAll_45 (by decide) ?_
        refine lv_istore (lv' := [(4, .int _), (0, .ref _), (1, .int _), (2, .ref _), (3, .ref _)]) hx hb dX7_moveAll_46 hl (by decide) rfl (fun ls hl => ?_)
        exact b48 _ _ _ _ _ hv3 hF H locs ls hP hD hS (lv_sub hl [1, 2, 4, 0] rfl)
      · have hF := ite_f hF c7
        refine lv_iload_n hx hb dX7_moveAll_10 rfl (lv_at hl 1 rfl) ?_
        refine lv_if_eq (tgt := 28) hx hb dX7_moveAll_11 (by decide) (fun c8 => ?_) (fun c8 => ?_)
        · have hF := ite_t hF c8
          refine lv_aload_n hx hb dX7_moveAll_28 rfl (lv_at hl 0 rfl) ?_
          refine va_get_w S hK hP _ c_MO rfl igX7 0 (by decide) q879 rfl rfl dX7_moveAll_29 ?_
          refine lv_iload hx hb dX7_moveAll_32 (lv_at hl 4 rfl) ?_
          refine lv_aload_n hx hb dX7_moveAll_34 rfl (lv_at hl 2 rfl) ?_
          refine lv_iload hx hb dX7_moveAll_35 (lv_at hl 4 rfl) ?_
          obtain ⟨hin9, hF⟩ := gd_some hF
          refine mIald S hK hP hv2 rfl hin9 dX7_moveAll_37 ?_
          obtain ⟨hin10, hF⟩ := gd_some hF
          refine mIast S hK hP hD hS ⟨rfl, by decide⟩ rfl hin10 dX7_moveAll_38 (fun H locs hP hD hS => ?_)
          exact b39 _ ih _ _ _ _ _ hv2 hv3 hF H locs ls hP hD hS (lv_sub hl [0, 1, 2, 3, 4] rfl)
        · have hF := ite_f hF c8
          refine lv_aload_n hx hb dX7_moveAll_14 rfl (lv_at hl 2 rfl) ?_
          refine lv_iload hx hb dX7_moveAll_15 (lv_at hl 4 rfl) ?_
          refine lv_aload_n hx hb dX7_moveAll_17 rfl (lv_at hl 0 rfl) ?_
          refine va_get_w S hK hP _ c_MO rfl igX7 0 (by decide) q879 rfl rfl dX7_moveAll_18 ?_
          refine lv_iload hx hb dX7_moveAll_21 (lv_at hl 4 rfl) ?_
          obtain ⟨hin11, hF⟩ := gd_some hF
          refine mIald S hK hP ⟨rfl, by decide⟩ rfl hin11 dX7_moveAll_23 ?_
          obtain ⟨hin12, hF⟩ := gd_some hF
          refine mIast S hK hP hD hS hv2 rfl hin12 dX7_moveAll_24 (fun H locs hP hD hS => ?_)
          refine lv_goto (tgt := 39) hx hb dX7_moveAll_25 (by decide) ?_
          exact b39 _ ih _ _ _ _ _ hv2 hv3 hF H locs ls hP hD hS (lv_sub hl [0, 1, 2, 3, 4] rfl)
  unfold F_X7_moveAll at hF
  have b_main : BW p l e s m below meth c 0 0 [.ref (a 0), .int x1, .ref (a x2), .ref (a x3)] D (AM a) none (wlM cc a u') 5 (wlM cc a u) 0 [(0, .ref (a 0)), (1, .int x1), (2, .ref (a x2)), (3, .ref (a x3))] [] := by
    intro H locs ls hP hD hS hl
    refine lv_iconst (v := 0) hx hb dX7_moveAll_0 (by decide) ?_
    refine lv_istore (lv' := [(4, .int _), (0, .ref _), (1, .int _), (2, .ref _), (3, .ref _)]) hx hb dX7_moveAll_1 hl (by decide) rfl (fun ls hl => ?_)
    exact b3 _ _ _ _ _ _ hx2 hx3 hF H locs ls hP hD hS (lv_sub hl [1, 2, 3, 4, 0] rfl)
  have hl := lv_entry ([.ref (a 0), .int x1, .ref (a x2), .ref (a x3)]) (n := 5) (Nat.le_of_ble_eq_true rfl)
  rw [lg_entry_eq]
  generalize (lg_sl ([.ref (a 0), .int x1, .ref (a x2), .ref (a x3)]) ++ List.replicate (5 - (lg_sl ([.ref (a 0), .int x1, .ref (a x2), .ref (a x3)])).length) Slot.unset).toArray = ls at hl ⊢
  exact b_main _ _ _ hP hD hS hl

set_option maxRecDepth 100000 in
set_option maxHeartbeats 4000000 in
theorem m_X7_byteAt  {x1 : Int32} {u u' : Mem} {r : Int32}  (hF : F_X7_byteAt  u x1 = some (r, u')) : MR l D cc a yX7_byteAt cX7_byteAt 2 (some .int) 0 0 [.ref (a 0), .int x1] u (some (.int r)) u' := by
  refine MM.ofW (by decide) (fun p e s m below meth c S hr hlocks hK hEs hP hD hS => ?_)
  have S : CallFix p m c cX7_byteAt 2 s _ gtbl RX7 := S
  obtain ⟨hx, hb, hml, hown, hts⟩ := id S
  have b18 : ∀  (u : Mem) (y0 : Int32) , F_X7_byteAt_18  u y0 = some (r, u') → BW p l e s m below meth c 0 0 [.ref (a 0), .int x1] D (AM a) (some (.int r)) (wlM cc a u') 2 (wlM cc a u) 18 [] [.int y0] := by
    intro  u y0 hF H locs ls hP hD hS hl
    unfold F_X7_byteAt_18 at hF
    obtain ⟨rfl, rfl⟩ := sp_eq hF
    exact retI S hr hlocks hP hD hS dX7_byteAt_18
  unfold F_X7_byteAt at hF
  have b_main : BW p l e s m below meth c 0 0 [.ref (a 0), .int x1] D (AM a) (some (.int r)) (wlM cc a u') 2 (wlM cc a u) 0 [(0, .ref (a 0)), (1, .int x1)] [] := by
    intro H locs ls hP hD hS hl
    refine lv_iload_n hx hb dX7_byteAt_0 rfl (lv_at hl 1 rfl) ?_
    refine lv_aload_n hx hb dX7_byteAt_1 rfl (lv_at hl 0 rfl) ?_
    refine va_get_w S hK hP _ c_MO rfl igX7 9 (by decide) q888 rfl rfl dX7_byteAt_2 ?_
    refine lv_icmp_ge (tgt := 17) hx hb dX7_byteAt_5 (by decide) (fun c1 => ?_) (fun c1 => ?_)
    · have hF := ite_t hF c1
      refine lv_iconst (v := -1) hx hb dX7_byteAt_17 (by decide) ?_
      exact b18 _ _  hF H locs ls hP hD hS (lv_sub hl [] rfl)
    · have hF := ite_f hF c1
      refine lv_aload_n hx hb dX7_byteAt_8 rfl (lv_at hl 0 rfl) ?_
      refine va_get_w S hK hP _ c_MO rfl igX7 8 (by decide) q887 rfl rfl dX7_byteAt_9 ?_
      refine lv_iload_n hx hb dX7_byteAt_12 rfl (lv_at hl 1 rfl) ?_
      obtain ⟨hin2, hF⟩ := gd_some hF
      refine mIald S hK hP ⟨rfl, by decide⟩ rfl hin2 dX7_byteAt_13 ?_
      refine lv_goto (tgt := 18) hx hb dX7_byteAt_14 (by decide) ?_
      exact b18 _ _  hF H locs ls hP hD hS (lv_sub hl [] rfl)
  have hl := lv_entry ([.ref (a 0), .int x1]) (n := 2) (Nat.le_of_ble_eq_true rfl)
  rw [lg_entry_eq]
  generalize (lg_sl ([.ref (a 0), .int x1]) ++ List.replicate (2 - (lg_sl ([.ref (a 0), .int x1])).length) Slot.unset).toArray = ls at hl ⊢
  exact b_main _ _ _ hP hD hS hl

set_option maxRecDepth 100000 in
set_option maxHeartbeats 4000000 in
theorem m_X7_isLetter  {x0 : Int32} {u u' : Mem} {r : Int32}  (hF : F_X7_isLetter  u x0 = some (r, u')) : MR l D cc a yX7_isLetter cX7_isLetter 1 (some .boolean) 1 22 [.int x0] u (some (.int r)) u' := by
  refine MM.ofW (by decide) (fun p e s m below meth c S hr hlocks hK hEs hP hD hS => ?_)
  have S : CallFix p m c cX7_isLetter 1 s _ gtbl RX7 := S
  obtain ⟨hx, hb, hml, hown, hts⟩ := id S
  unfold F_X7_isLetter at hF
  have b_main : BW p l e s m below meth c 1 22 [.int x0] D (AM a) (some (.int r)) (wlM cc a u') 1 (wlM cc a u) 0 [(0, .int x0)] [] := by
    intro H locs ls hP hD hS hl
    refine lv_iload_n hx hb dX7_isLetter_0 rfl (lv_at hl 0 rfl) ?_
    refine lv_bipush (v := 97) hx hb dX7_isLetter_1 (by decide) ?_
    refine lv_bipush (v := 122) hx hb dX7_isLetter_3 (by decide) ?_
    obtain ⟨r2, u1, e3, hF⟩ := bdI_some hF
    refine MM.callSi (m_X7_in e3) k_X7_64 S emOK hEs hK ⟨by decide, by decide⟩ rfl rfl hl.1 (Nat.le_of_ble_eq_true rfl) dX7_isLetter_5 ⟨Nat.le_refl _, Nat.le_refl _⟩ hP hD hS (fun H locs hP hD hS => ?_)
    obtain ⟨hz4, hF⟩ := gz_some hF
    obtain ⟨rfl, rfl⟩ := sp_eq hF
    exact retZ S hr hlocks hP hD hS hz4 dX7_isLetter_8
  have hl := lv_entry ([.int x0]) (n := 1) (Nat.le_of_ble_eq_true rfl)
  rw [lg_entry_eq]
  generalize (lg_sl ([.int x0]) ++ List.replicate (1 - (lg_sl ([.int x0])).length) Slot.unset).toArray = ls at hl ⊢
  exact b_main _ _ _ hP hD hS hl

set_option maxRecDepth 100000 in
set_option maxHeartbeats 4000000 in
theorem m_X7_isDigit  {x0 : Int32} {u u' : Mem} {r : Int32}  (hF : F_X7_isDigit  u x0 = some (r, u')) : MR l D cc a yX7_isDigit cX7_isDigit 1 (some .boolean) 1 22 [.int x0] u (some (.int r)) u' := by
  refine MM.ofW (by decide) (fun p e s m below meth c S hr hlocks hK hEs hP hD hS => ?_)
  have S : CallFix p m c cX7_isDigit 1 s _ gtbl RX7 := S
  obtain ⟨hx, hb, hml, hown, hts⟩ := id S
  unfold F_X7_isDigit at hF
  have b_main : BW p l e s m below meth c 1 22 [.int x0] D (AM a) (some (.int r)) (wlM cc a u') 1 (wlM cc a u) 0 [(0, .int x0)] [] := by
    intro H locs ls hP hD hS hl
    refine lv_iload_n hx hb dX7_isDigit_0 rfl (lv_at hl 0 rfl) ?_
    refine lv_bipush (v := 48) hx hb dX7_isDigit_1 (by decide) ?_
    refine lv_bipush (v := 57) hx hb dX7_isDigit_3 (by decide) ?_
    obtain ⟨r2, u1, e3, hF⟩ := bdI_some hF
    refine MM.callSi (m_X7_in e3) k_X7_64 S emOK hEs hK ⟨by decide, by decide⟩ rfl rfl hl.1 (Nat.le_of_ble_eq_true rfl) dX7_isDigit_5 ⟨Nat.le_refl _, Nat.le_refl _⟩ hP hD hS (fun H locs hP hD hS => ?_)
    obtain ⟨hz4, hF⟩ := gz_some hF
    obtain ⟨rfl, rfl⟩ := sp_eq hF
    exact retZ S hr hlocks hP hD hS hz4 dX7_isDigit_8
  have hl := lv_entry ([.int x0]) (n := 1) (Nat.le_of_ble_eq_true rfl)
  rw [lg_entry_eq]
  generalize (lg_sl ([.int x0]) ++ List.replicate (1 - (lg_sl ([.int x0])).length) Slot.unset).toArray = ls at hl ⊢
  exact b_main _ _ _ hP hD hS hl

set_option maxRecDepth 100000 in
set_option maxHeartbeats 4000000 in
theorem m_X7_advance   {u u' : Mem}  (hF : F_X7_advance  u  = some u') : MR l D cc a yX7_advance cX7_advance 2 none 2 42 [.ref (a 0)] u none u' := by
  refine MM.ofW (by decide) (fun p e s m below meth c S hr hlocks hK hEs hP hD hS => ?_)
  have S : CallFix p m c cX7_advance 2 s _ gtbl RX7 := S
  obtain ⟨hx, hb, hml, hown, hts⟩ := id S
  have b281 : ∀  (u : Mem)  , F_X7_advance_281  u  = some u' → BW p l e s m below meth c 2 42 [.ref (a 0)] D (AM a) none (wlM cc a u') 2 (wlM cc a u) 281 [] [] := by
    intro  u  hF H locs ls hP hD hS hl
    unfold F_X7_advance_281 at hF
    obtain rfl := sv_eq hF
    exact retV S hr hlocks hP hD hS dX7_advance_281
  have b265 : ∀ (k207 : Mem → Option Mem) (hk207 : ∀ (u : Mem)  , k207 u  = some u' → BW p l e s m below meth c 2 42 [.ref (a 0)] D (AM a) none (wlM cc a u') 2 (wlM cc a u) 207 [(0, .ref (a 0))] []) (u : Mem) (y1 : Int32) , F_X7_advance_265 k207 u y1 = some u' → BW p l e s m below meth c 2 42 [.ref (a 0)] D (AM a) none (wlM cc a u') 2 (wlM cc a u) 265 [(0, .ref (a 0))] [.int y1, .ref (a 0)] := by
    intro k207 hk207 u y1 hF H locs ls hP hD hS hl
    unfold F_X7_advance_265 at hF
    refine va_put_w S igX7 tyX7 tyX7_ok nmX7 hK hP hD hS _ c_MO rfl 14 (by decide) q893 rfl rfl (tyX7_ok 14 (by decide)) rfl rfl (Nat.le_of_ble_eq_true rfl) (z_MO (by decide)) dX7_advance_265 (fun H locs hP hD hS => ?_)
    refine lv_aload_n hx hb dX7_advance_268 rfl (lv_at hl 0 rfl) ?_
    refine lv_dup hx hb dX7_advance_269 rfl ?_
    refine va_get_w S hK hP _ c_MO rfl igX7 12 (by decide) q891 rfl rfl dX7_advance_270 ?_
    refine lv_iconst (v := 1) hx hb dX7_advance_273 (by decide) ?_
    refine lv_iadd hx hb dX7_advance_274 ?_
    refine va_put_w S igX7 tyX7 tyX7_ok nmX7 hK hP hD hS _ c_MO rfl 12 (by decide) q891 rfl rfl (tyX7_ok 12 (by decide)) rfl rfl (Nat.le_of_ble_eq_true rfl) (z_MO (by decide)) dX7_advance_275 (fun H locs hP hD hS => ?_)
    refine lv_goto (tgt := 207) hx hb dX7_advance_278 (by decide) ?_
    exact hk207 _  hF H locs ls hP hD hS (lv_sub hl [0] rfl)
  have b207 : ∀ (n : Nat) (u : Mem)  , F_X7_advance_207  n u  = some u' → BW p l e s m below meth c 2 42 [.ref (a 0)] D (AM a) none (wlM cc a u') 2 (wlM cc a u) 207 [(0, .ref (a 0))] [] := by
    intro n
    induction n with
    | zero => intro u  hF; cases hF
    | succ n ih =>
      intro u  hF H locs ls hP hD hS hl
      unfold F_X7_advance_207 at hF
      refine lv_aload_n hx hb dX7_advance_207 rfl (lv_at hl 0 rfl) ?_
      refine va_get_w S hK hP _ c_MO rfl igX7 10 (by decide) q889 rfl rfl dX7_advance_208 ?_
      refine lv_iconst (v := 2) hx hb dX7_advance_211 (by decide) ?_
      refine lv_icmp_ne (tgt := 281) hx hb dX7_advance_212 (by decide) (fun c1 => ?_) (fun c1 => ?_)
      · have hF := ite_f hF c1
        exact b281 _  hF H locs ls hP hD hS (lv_sub hl [] rfl)
      · have hF := ite_t hF c1
        refine lv_aload_n hx hb dX7_advance_215 rfl (lv_at hl 0 rfl) ?_
        refine lv_aload_n hx hb dX7_advance_216 rfl (lv_at hl 0 rfl) ?_
        refine va_get_w S hK hP _ c_MO rfl igX7 12 (by decide) q891 rfl rfl dX7_advance_217 ?_
        obtain ⟨r3, u2, e4, hF⟩ := bdI_some hF
        refine MM.callVi (m_X7_byteAt e4) k_X7_204 S emOK hEs hK ⟨by decide, by decide⟩ (va_recv hK hP rfl c_MO) rfl rfl hl.1 (Nat.le_of_ble_eq_true rfl) dX7_advance_220 ⟨Nat.le_refl _, Nat.le_refl _⟩ hP hD hS (fun H locs hP hD hS => ?_)
        obtain ⟨r6, u5, e7, hF⟩ := bdI_some hF
        refine MM.callSi (m_X7_isDigit e7) k_X7_210 S emOK hEs hK ⟨by decide, by decide⟩ rfl rfl hl.1 (Nat.le_of_ble_eq_true rfl) dX7_advance_223 ⟨Nat.le_refl _, Nat.le_refl _⟩ hP hD hS (fun H locs hP hD hS => ?_)
        refine lv_if_eq (tgt := 281) hx hb dX7_advance_226 (by decide) (fun c8 => ?_) (fun c8 => ?_)
        · have hF := ite_t hF c8
          exact b281 _  hF H locs ls hP hD hS (lv_sub hl [] rfl)
        · have hF := ite_f hF c8
          refine lv_aload_n hx hb dX7_advance_229 rfl (lv_at hl 0 rfl) ?_
          refine lv_aload_n hx hb dX7_advance_230 rfl (lv_at hl 0 rfl) ?_
          refine va_get_w S hK hP _ c_MO rfl igX7 14 (by decide) q893 rfl rfl dX7_advance_231 ?_
          refine lv_sipush (v := 999) hx hb dX7_advance_234 (by decide) ?_
          refine lv_icmp_le (tgt := 246) hx hb dX7_advance_237 (by decide) (fun c9 => ?_) (fun c9 => ?_)
          · have hF := ite_t hF c9
            refine lv_bipush (v := 10) hx hb dX7_advance_246 (by decide) ?_
            refine lv_aload_n hx hb dX7_advance_248 rfl (lv_at hl 0 rfl) ?_
            refine va_get_w S hK hP _ c_MO rfl igX7 14 (by decide) q893 rfl rfl dX7_advance_249 ?_
            refine lv_imul hx hb dX7_advance_252 ?_
            refine lv_aload_n hx hb dX7_advance_253 rfl (lv_at hl 0 rfl) ?_
            refine lv_aload_n hx hb dX7_advance_254 rfl (lv_at hl 0 rfl) ?_
            refine va_get_w S hK hP _ c_MO rfl igX7 12 (by decide) q891 rfl rfl dX7_advance_255 ?_
            obtain ⟨r11, u10, e12, hF⟩ := bdI_some hF
            refine MM.callVi (m_X7_byteAt e12) k_X7_204 S emOK hEs hK ⟨by decide, by decide⟩ (va_recv hK hP rfl c_MO) rfl rfl hl.1 (Nat.le_of_ble_eq_true rfl) dX7_advance_258 ⟨Nat.le_refl _, Nat.le_refl _⟩ hP hD hS (fun H locs hP hD hS => ?_)
            refine lv_iadd hx hb dX7_advance_261 ?_
            refine lv_bipush (v := 48) hx hb dX7_advance_262 (by decide) ?_
            refine lv_isub hx hb dX7_advance_264 ?_
            exact b265 _ ih _ _  hF H locs ls hP hD hS (lv_sub hl [0] rfl)
          · have hF := ite_f hF c9
            refine lv_sipush (v := 10000) hx hb dX7_advance_240 (by decide) ?_
            refine lv_goto (tgt := 265) hx hb dX7_advance_243 (by decide) ?_
            exact b265 _ ih _ _  hF H locs ls hP hD hS (lv_sub hl [0] rfl)
  have b191 : ∀ (k126 : Mem → Option Mem) (hk126 : ∀ (u : Mem)  , k126 u  = some u' → BW p l e s m below meth c 2 42 [.ref (a 0)] D (AM a) none (wlM cc a u') 2 (wlM cc a u) 126 [(0, .ref (a 0))] []) (u : Mem) (y1 : Int64) , F_X7_advance_191 k126 u y1 = some u' → BW p l e s m below meth c 2 42 [.ref (a 0)] D (AM a) none (wlM cc a u') 2 (wlM cc a u) 191 [(0, .ref (a 0))] [.long y1, .ref (a 0)] := by
    intro k126 hk126 u y1 hF H locs ls hP hD hS hl
    unfold F_X7_advance_191 at hF
    refine va_put_w S igX7 tyX7 tyX7_ok nmX7 hK hP hD hS _ c_MO rfl 13 (by decide) q892 rfl rfl (tyX7_ok 13 (by decide)) rfl rfl (Nat.le_of_ble_eq_true rfl) z_MOl dX7_advance_191 (fun H locs hP hD hS => ?_)
    refine lv_aload_n hx hb dX7_advance_194 rfl (lv_at hl 0 rfl) ?_
    refine lv_dup hx hb dX7_advance_195 rfl ?_
    refine va_get_w S hK hP _ c_MO rfl igX7 12 (by decide) q891 rfl rfl dX7_advance_196 ?_
    refine lv_iconst (v := 1) hx hb dX7_advance_199 (by decide) ?_
    refine lv_iadd hx hb dX7_advance_200 ?_
    refine va_put_w S igX7 tyX7 tyX7_ok nmX7 hK hP hD hS _ c_MO rfl 12 (by decide) q891 rfl rfl (tyX7_ok 12 (by decide)) rfl rfl (Nat.le_of_ble_eq_true rfl) (z_MO (by decide)) dX7_advance_201 (fun H locs hP hD hS => ?_)
    refine lv_goto (tgt := 126) hx hb dX7_advance_204 (by decide) ?_
    exact hk126 _  hF H locs ls hP hD hS (lv_sub hl [0] rfl)
  have b126 : ∀ (n : Nat) (u : Mem)  , F_X7_advance_126  n u  = some u' → BW p l e s m below meth c 2 42 [.ref (a 0)] D (AM a) none (wlM cc a u') 2 (wlM cc a u) 126 [(0, .ref (a 0))] [] := by
    intro n
    induction n with
    | zero => intro u  hF; cases hF
    | succ n ih =>
      intro u  hF H locs ls hP hD hS hl
      unfold F_X7_advance_126 at hF
      refine lv_aload_n hx hb dX7_advance_126 rfl (lv_at hl 0 rfl) ?_
      refine va_get_w S hK hP _ c_MO rfl igX7 10 (by decide) q889 rfl rfl dX7_advance_127 ?_
      refine lv_iconst (v := 1) hx hb dX7_advance_130 (by decide) ?_
      refine lv_icmp_ne (tgt := 207) hx hb dX7_advance_131 (by decide) (fun c13 => ?_) (fun c13 => ?_)
      · have hF := ite_f hF c13
        exact b207 _ _  hF H locs ls hP hD hS (lv_sub hl [0] rfl)
      · have hF := ite_t hF c13
        refine lv_aload_n hx hb dX7_advance_134 rfl (lv_at hl 0 rfl) ?_
        refine lv_aload_n hx hb dX7_advance_135 rfl (lv_at hl 0 rfl) ?_
        refine va_get_w S hK hP _ c_MO rfl igX7 12 (by decide) q891 rfl rfl dX7_advance_136 ?_
        obtain ⟨r15, u14, e16, hF⟩ := bdI_some hF
        refine MM.callVi (m_X7_byteAt e16) k_X7_204 S emOK hEs hK ⟨by decide, by decide⟩ (va_recv hK hP rfl c_MO) rfl rfl hl.1 (Nat.le_of_ble_eq_true rfl) dX7_advance_139 ⟨Nat.le_refl _, Nat.le_refl _⟩ hP hD hS (fun H locs hP hD hS => ?_)
        obtain ⟨r18, u17, e19, hF⟩ := bdI_some hF
        refine MM.callSi (m_X7_isLetter e19) k_X7_207 S emOK hEs hK ⟨by decide, by decide⟩ rfl rfl hl.1 (Nat.le_of_ble_eq_true rfl) dX7_advance_142 ⟨Nat.le_refl _, Nat.le_refl _⟩ hP hD hS (fun H locs hP hD hS => ?_)
        refine lv_if_eq (tgt := 207) hx hb dX7_advance_145 (by decide) (fun c20 => ?_) (fun c20 => ?_)
        · have hF := ite_t hF c20
          exact b207 _ _  hF H locs ls hP hD hS (lv_sub hl [0] rfl)
        · have hF := ite_f hF c20
          refine lv_aload_n hx hb dX7_advance_148 rfl (lv_at hl 0 rfl) ?_
          refine lv_aload_n hx hb dX7_advance_149 rfl (lv_at hl 0 rfl) ?_
          refine va_get_w S hK hP _ c_MO rfl igX7 12 (by decide) q891 rfl rfl dX7_advance_150 ?_
          refine lv_aload_n hx hb dX7_advance_153 rfl (lv_at hl 0 rfl) ?_
          refine va_get_w S hK hP _ c_MO rfl igX7 11 (by decide) q890 rfl rfl dX7_advance_154 ?_
          refine lv_isub hx hb dX7_advance_157 ?_
          refine lv_bipush (v := 12) hx hb dX7_advance_158 (by decide) ?_
          refine lv_icmp_ge (tgt := 188) hx hb dX7_advance_160 (by decide) (fun c21 => ?_) (fun c21 => ?_)
          · have hF := ite_t hF c21
            refine lv_ldc2 hx hb hown (hts _ q1008) dX7_advance_188 ?_
            exact b191 _ ih _ _  hF H locs ls hP hD hS (lv_sub hl [0] rfl)
          · have hF := ite_f hF c21
            refine lv_ldc2 hx hb hown (hts _ q1245) dX7_advance_163 ?_
            refine lv_aload_n hx hb dX7_advance_166 rfl (lv_at hl 0 rfl) ?_
            refine va_get_w S hK hP _ c_MO rfl igX7 13 (by decide) q892 rfl rfl dX7_advance_167 ?_
            refine lv_lmul hx hb dX7_advance_170 ?_
            refine lv_aload_n hx hb dX7_advance_171 rfl (lv_at hl 0 rfl) ?_
            refine lv_aload_n hx hb dX7_advance_172 rfl (lv_at hl 0 rfl) ?_
            refine va_get_w S hK hP _ c_MO rfl igX7 12 (by decide) q891 rfl rfl dX7_advance_173 ?_
            obtain ⟨r23, u22, e24, hF⟩ := bdI_some hF
            refine MM.callVi (m_X7_byteAt e24) k_X7_204 S emOK hEs hK ⟨by decide, by decide⟩ (va_recv hK hP rfl c_MO) rfl rfl hl.1 (Nat.le_of_ble_eq_true rfl) dX7_advance_176 ⟨Nat.le_refl _, Nat.le_refl _⟩ hP hD hS (fun H locs hP hD hS => ?_)
            refine lv_i2l hx hb dX7_advance_179 rfl ?_
            refine lv_ladd hx hb dX7_advance_180 ?_
            refine lv_ldc2 hx hb hown (hts _ q1246) dX7_advance_181 ?_
            refine lv_lsub hx hb dX7_advance_184 ?_
            refine lv_goto (tgt := 191) hx hb dX7_advance_185 (by decide) ?_
            exact b191 _ ih _ _  hF H locs ls hP hD hS (lv_sub hl [0] rfl)
  have b105 : ∀  (u : Mem) (y1 : Int32) , F_X7_advance_105  u y1 = some u' → BW p l e s m below meth c 2 42 [.ref (a 0)] D (AM a) none (wlM cc a u') 2 (wlM cc a u) 105 [(0, .ref (a 0))] [.int y1, .ref (a 0)] := by
    intro  u y1 hF H locs ls hP hD hS hl
    unfold F_X7_advance_105 at hF
    refine va_put_w S igX7 tyX7 tyX7_ok nmX7 hK hP hD hS _ c_MO rfl 14 (by decide) q893 rfl rfl (tyX7_ok 14 (by decide)) rfl rfl (Nat.le_of_ble_eq_true rfl) (z_MO (by decide)) dX7_advance_105 (fun H locs hP hD hS => ?_)
    refine lv_aload_n hx hb dX7_advance_108 rfl (lv_at hl 0 rfl) ?_
    refine va_get_w S hK hP _ c_MO rfl igX7 10 (by decide) q889 rfl rfl dX7_advance_109 ?_
    refine lv_iconst (v := 3) hx hb dX7_advance_112 (by decide) ?_
    refine lv_icmp_ne (tgt := 126) hx hb dX7_advance_113 (by decide) (fun c25 => ?_) (fun c25 => ?_)
    · have hF := ite_f hF c25
      exact b126 _ _  hF H locs ls hP hD hS (lv_sub hl [0] rfl)
    · have hF := ite_t hF c25
      refine lv_aload_n hx hb dX7_advance_116 rfl (lv_at hl 0 rfl) ?_
      refine lv_dup hx hb dX7_advance_117 rfl ?_
      refine va_get_w S hK hP _ c_MO rfl igX7 12 (by decide) q891 rfl rfl dX7_advance_118 ?_
      refine lv_iconst (v := 1) hx hb dX7_advance_121 (by decide) ?_
      refine lv_iadd hx hb dX7_advance_122 ?_
      refine va_put_w S igX7 tyX7 tyX7_ok nmX7 hK hP hD hS _ c_MO rfl 12 (by decide) q891 rfl rfl (tyX7_ok 12 (by decide)) rfl rfl (Nat.le_of_ble_eq_true rfl) (z_MO (by decide)) dX7_advance_123 (fun H locs hP hD hS => ?_)
      exact b126 _ _  hF H locs ls hP hD hS (lv_sub hl [0] rfl)
  have b83 : ∀  (u : Mem) (v1 : Int32) (y1 : Int32) , F_X7_advance_83  u v1 y1 = some u' → BW p l e s m below meth c 2 42 [.ref (a 0)] D (AM a) none (wlM cc a u') 2 (wlM cc a u) 83 [(0, .ref (a 0)), (1, .int v1)] [.int y1, .ref (a 0)] := by
    intro  u v1 y1 hF H locs ls hP hD hS hl
    unfold F_X7_advance_83 at hF
    refine va_put_w S igX7 tyX7 tyX7_ok nmX7 hK hP hD hS _ c_MO rfl 10 (by decide) q889 rfl rfl (tyX7_ok 10 (by decide)) rfl rfl (Nat.le_of_ble_eq_true rfl) (z_MO (by decide)) dX7_advance_83 (fun H locs hP hD hS => ?_)
    refine lv_aload_n hx hb dX7_advance_86 rfl (lv_at hl 0 rfl) ?_
    refine lv_lconst (v := 0) hx hb dX7_advance_87 (by decide) ?_
    refine va_put_w S igX7 tyX7 tyX7_ok nmX7 hK hP hD hS _ c_MO rfl 13 (by decide) q892 rfl rfl (tyX7_ok 13 (by decide)) rfl rfl (Nat.le_of_ble_eq_true rfl) z_MOl dX7_advance_88 (fun H locs hP hD hS => ?_)
    refine lv_aload_n hx hb dX7_advance_91 rfl (lv_at hl 0 rfl) ?_
    refine lv_aload_n hx hb dX7_advance_92 rfl (lv_at hl 0 rfl) ?_
    refine va_get_w S hK hP _ c_MO rfl igX7 10 (by decide) q889 rfl rfl dX7_advance_93 ?_
    refine lv_iconst (v := 2) hx hb dX7_advance_96 (by decide) ?_
    refine lv_icmp_ne (tgt := 104) hx hb dX7_advance_97 (by decide) (fun c26 => ?_) (fun c26 => ?_)
    · have hF := ite_f hF c26
      refine lv_iload_n hx hb dX7_advance_104 rfl (lv_at hl 1 rfl) ?_
      exact b105 _ _  hF H locs ls hP hD hS (lv_sub hl [0] rfl)
    · have hF := ite_t hF c26
      refine lv_iconst (v := 0) hx hb dX7_advance_100 (by decide) ?_
      refine lv_goto (tgt := 105) hx hb dX7_advance_101 (by decide) ?_
      exact b105 _ _  hF H locs ls hP hD hS (lv_sub hl [0] rfl)
  have b8 : ∀ (n : Nat) (u : Mem)  , F_X7_advance_8  n u  = some u' → BW p l e s m below meth c 2 42 [.ref (a 0)] D (AM a) none (wlM cc a u') 2 (wlM cc a u) 8 [(0, .ref (a 0))] [] := by
    intro n
    induction n with
    | zero => intro u  hF; cases hF
    | succ n ih =>
      intro u  hF H locs ls hP hD hS hl
      unfold F_X7_advance_8 at hF
      refine lv_aload_n hx hb dX7_advance_8 rfl (lv_at hl 0 rfl) ?_
      refine lv_aload_n hx hb dX7_advance_9 rfl (lv_at hl 0 rfl) ?_
      refine va_get_w S hK hP _ c_MO rfl igX7 11 (by decide) q890 rfl rfl dX7_advance_10 ?_
      obtain ⟨r28, u27, e29, hF⟩ := bdI_some hF
      refine MM.callVi (m_X7_byteAt e29) k_X7_204 S emOK hEs hK ⟨by decide, by decide⟩ (va_recv hK hP rfl c_MO) rfl rfl hl.1 (Nat.le_of_ble_eq_true rfl) dX7_advance_13 ⟨Nat.le_refl _, Nat.le_refl _⟩ hP hD hS (fun H locs hP hD hS => ?_)
      refine lv_bipush (v := 32) hx hb dX7_advance_16 (by decide) ?_
      refine lv_icmp_ne (tgt := 34) hx hb dX7_advance_18 (by decide) (fun c30 => ?_) (fun c30 => ?_)
      · have hF := ite_f hF c30
        refine lv_aload_n hx hb dX7_advance_34 rfl (lv_at hl 0 rfl) ?_
        refine lv_aload_n hx hb dX7_advance_35 rfl (lv_at hl 0 rfl) ?_
        refine va_get_w S hK hP _ c_MO rfl igX7 11 (by decide) q890 rfl rfl dX7_advance_36 ?_
        refine va_put_w S igX7 tyX7 tyX7_ok nmX7 hK hP hD hS _ c_MO rfl 12 (by decide) q891 rfl rfl (tyX7_ok 12 (by decide)) rfl rfl (Nat.le_of_ble_eq_true rfl) (z_MO (by decide)) dX7_advance_39 (fun H locs hP hD hS => ?_)
        refine lv_aload_n hx hb dX7_advance_42 rfl (lv_at hl 0 rfl) ?_
        refine lv_aload_n hx hb dX7_advance_43 rfl (lv_at hl 0 rfl) ?_
        refine va_get_w S hK hP _ c_MO rfl igX7 11 (by decide) q890 rfl rfl dX7_advance_44 ?_
        obtain ⟨r32, u31, e33, hF⟩ := bdI_some hF
        refine MM.callVi (m_X7_byteAt e33) k_X7_204 S emOK hEs hK ⟨by decide, by decide⟩ (va_recv hK hP rfl c_MO) rfl rfl hl.1 (Nat.le_of_ble_eq_true rfl) dX7_advance_47 ⟨Nat.le_refl _, Nat.le_refl _⟩ hP hD hS (fun H locs hP hD hS => ?_)
        refine lv_istore_n (lv' := [(1, .int _), (0, .ref _)]) hx hb dX7_advance_50 rfl hl (by decide) rfl (fun ls hl => ?_)
        refine lv_aload_n hx hb dX7_advance_51 rfl (lv_at hl 1 rfl) ?_
        refine lv_iload_n hx hb dX7_advance_52 rfl (lv_at hl 0 rfl) ?_
        refine lv_if_ge (tgt := 60) hx hb dX7_advance_53 (by decide) (fun c34 => ?_) (fun c34 => ?_)
        · have hF := ite_t hF c34
          refine lv_iload_n hx hb dX7_advance_60 rfl (lv_at hl 0 rfl) ?_
          obtain ⟨r36, u35, e37, hF⟩ := bdI_some hF
          refine MM.callSi (m_X7_isLetter e37) k_X7_207 S emOK hEs hK ⟨by decide, by decide⟩ rfl rfl hl.1 (Nat.le_of_ble_eq_true rfl) dX7_advance_61 ⟨Nat.le_refl _, Nat.le_refl _⟩ hP hD hS (fun H locs hP hD hS => ?_)
          refine lv_if_eq (tgt := 71) hx hb dX7_advance_64 (by decide) (fun c38 => ?_) (fun c38 => ?_)
          · have hF := ite_t hF c38
            refine lv_iload_n hx hb dX7_advance_71 rfl (lv_at hl 0 rfl) ?_
            obtain ⟨r40, u39, e41, hF⟩ := bdI_some hF
            refine MM.callSi (m_X7_isDigit e41) k_X7_210 S emOK hEs hK ⟨by decide, by decide⟩ rfl rfl hl.1 (Nat.le_of_ble_eq_true rfl) dX7_advance_72 ⟨Nat.le_refl _, Nat.le_refl _⟩ hP hD hS (fun H locs hP hD hS => ?_)
            refine lv_if_eq (tgt := 82) hx hb dX7_advance_75 (by decide) (fun c42 => ?_) (fun c42 => ?_)
            · have hF := ite_t hF c42
              refine lv_iconst (v := 3) hx hb dX7_advance_82 (by decide) ?_
              exact b83 _ _ _  hF H locs ls hP hD hS (lv_sub hl [1, 0] rfl)
            · have hF := ite_f hF c42
              refine lv_iconst (v := 2) hx hb dX7_advance_78 (by decide) ?_
              refine lv_goto (tgt := 83) hx hb dX7_advance_79 (by decide) ?_
              exact b83 _ _ _  hF H locs ls hP hD hS (lv_sub hl [1, 0] rfl)
          · have hF := ite_f hF c38
            refine lv_iconst (v := 1) hx hb dX7_advance_67 (by decide) ?_
            refine lv_goto (tgt := 83) hx hb dX7_advance_68 (by decide) ?_
            exact b83 _ _ _  hF H locs ls hP hD hS (lv_sub hl [1, 0] rfl)
        · have hF := ite_f hF c34
          refine lv_iconst (v := 0) hx hb dX7_advance_56 (by decide) ?_
          refine lv_goto (tgt := 83) hx hb dX7_advance_57 (by decide) ?_
          exact b83 _ _ _  hF H locs ls hP hD hS (lv_sub hl [1, 0] rfl)
      · have hF := ite_t hF c30
        refine lv_aload_n hx hb dX7_advance_21 rfl (lv_at hl 0 rfl) ?_
        refine lv_dup hx hb dX7_advance_22 rfl ?_
        refine va_get_w S hK hP _ c_MO rfl igX7 11 (by decide) q890 rfl rfl dX7_advance_23 ?_
        refine lv_iconst (v := 1) hx hb dX7_advance_26 (by decide) ?_
        refine lv_iadd hx hb dX7_advance_27 ?_
        refine va_put_w S igX7 tyX7 tyX7_ok nmX7 hK hP hD hS _ c_MO rfl 11 (by decide) q890 rfl rfl (tyX7_ok 11 (by decide)) rfl rfl (Nat.le_of_ble_eq_true rfl) (z_MO (by decide)) dX7_advance_28 (fun H locs hP hD hS => ?_)
        refine lv_goto (tgt := 8) hx hb dX7_advance_31 (by decide) ?_
        exact ih _  hF H locs ls hP hD hS (lv_sub hl [0] rfl)
  unfold F_X7_advance at hF
  have b_main : BW p l e s m below meth c 2 42 [.ref (a 0)] D (AM a) none (wlM cc a u') 2 (wlM cc a u) 0 [(0, .ref (a 0))] [] := by
    intro H locs ls hP hD hS hl
    refine lv_aload_n hx hb dX7_advance_0 rfl (lv_at hl 0 rfl) ?_
    refine lv_aload_n hx hb dX7_advance_1 rfl (lv_at hl 0 rfl) ?_
    refine va_get_w S hK hP _ c_MO rfl igX7 12 (by decide) q891 rfl rfl dX7_advance_2 ?_
    refine va_put_w S igX7 tyX7 tyX7_ok nmX7 hK hP hD hS _ c_MO rfl 11 (by decide) q890 rfl rfl (tyX7_ok 11 (by decide)) rfl rfl (Nat.le_of_ble_eq_true rfl) (z_MO (by decide)) dX7_advance_5 (fun H locs hP hD hS => ?_)
    exact b8 _ _  hF H locs ls hP hD hS (lv_sub hl [0] rfl)
  have hl := lv_entry ([.ref (a 0)]) (n := 2) (Nat.le_of_ble_eq_true rfl)
  rw [lg_entry_eq]
  generalize (lg_sl ([.ref (a 0)]) ++ List.replicate (2 - (lg_sl ([.ref (a 0)])).length) Slot.unset).toArray = ls at hl ⊢
  exact b_main _ _ _ hP hD hS hl

set_option maxRecDepth 100000 in
set_option maxHeartbeats 4000000 in
theorem m_X7_isWord  {x1 : Int64} {u u' : Mem} {r : Int32}  (hF : F_X7_isWord  u x1 = some (r, u')) : MR l D cc a yX7_isWord cX7_isWord 3 (some .boolean) 0 0 [.ref (a 0), .long x1] u (some (.int r)) u' := by
  refine MM.ofW (by decide) (fun p e s m below meth c S hr hlocks hK hEs hP hD hS => ?_)
  have S : CallFix p m c cX7_isWord 3 s _ gtbl RX7 := S
  obtain ⟨hx, hb, hml, hown, hts⟩ := id S
  have b22 : ∀  (u : Mem) (y0 : Int32) , F_X7_isWord_22  u y0 = some (r, u') → BW p l e s m below meth c 0 0 [.ref (a 0), .long x1] D (AM a) (some (.int r)) (wlM cc a u') 3 (wlM cc a u) 22 [] [.int y0] := by
    intro  u y0 hF H locs ls hP hD hS hl
    unfold F_X7_isWord_22 at hF
    obtain ⟨hz1, hF⟩ := gz_some hF
    obtain ⟨rfl, rfl⟩ := sp_eq hF
    exact retZ S hr hlocks hP hD hS hz1 dX7_isWord_22
  have b21 : ∀  (u : Mem)  , F_X7_isWord_21  u  = some (r, u') → BW p l e s m below meth c 0 0 [.ref (a 0), .long x1] D (AM a) (some (.int r)) (wlM cc a u') 3 (wlM cc a u) 21 [] [] := by
    intro  u  hF H locs ls hP hD hS hl
    unfold F_X7_isWord_21 at hF
    refine lv_iconst (v := 0) hx hb dX7_isWord_21 (by decide) ?_
    exact b22 _ _  hF H locs ls hP hD hS (lv_sub hl [] rfl)
  unfold F_X7_isWord at hF
  have b_main : BW p l e s m below meth c 0 0 [.ref (a 0), .long x1] D (AM a) (some (.int r)) (wlM cc a u') 3 (wlM cc a u) 0 [(0, .ref (a 0)), (1, .long x1)] [] := by
    intro H locs ls hP hD hS hl
    refine lv_aload_n hx hb dX7_isWord_0 rfl (lv_at hl 0 rfl) ?_
    refine va_get_w S hK hP _ c_MO rfl igX7 10 (by decide) q889 rfl rfl dX7_isWord_1 ?_
    refine lv_iconst (v := 1) hx hb dX7_isWord_4 (by decide) ?_
    refine lv_icmp_ne (tgt := 21) hx hb dX7_isWord_5 (by decide) (fun c2 => ?_) (fun c2 => ?_)
    · have hF := ite_f hF c2
      exact b21 _  hF H locs ls hP hD hS (lv_sub hl [] rfl)
    · have hF := ite_t hF c2
      refine lv_aload_n hx hb dX7_isWord_8 rfl (lv_at hl 0 rfl) ?_
      refine va_get_w S hK hP _ c_MO rfl igX7 13 (by decide) q892 rfl rfl dX7_isWord_9 ?_
      refine lv_lload_n hx hb dX7_isWord_12 rfl (lv_at hl 1 rfl) ?_
      refine W.lcmp hx hb dX7_isWord_13 ?_
      refine lv_if_ne (tgt := 21) hx hb dX7_isWord_14 (by decide) (fun c3 => ?_) (fun c3 => ?_)
      · have hF := ite_f hF c3
        exact b21 _  hF H locs ls hP hD hS (lv_sub hl [] rfl)
      · have hF := ite_t hF c3
        refine lv_iconst (v := 1) hx hb dX7_isWord_17 (by decide) ?_
        refine lv_goto (tgt := 22) hx hb dX7_isWord_18 (by decide) ?_
        exact b22 _ _  hF H locs ls hP hD hS (lv_sub hl [] rfl)
  have hl := lv_entry ([.ref (a 0), .long x1]) (n := 3) (Nat.le_of_ble_eq_true rfl)
  rw [lg_entry_eq]
  generalize (lg_sl ([.ref (a 0), .long x1]) ++ List.replicate (3 - (lg_sl ([.ref (a 0), .long x1])).length) Slot.unset).toArray = ls at hl ⊢
  exact b_main _ _ _ hP hD hS hl

set_option maxRecDepth 100000 in
set_option maxHeartbeats 4000000 in
theorem m_X7_kindHere   {u u' : Mem} {r : Int32}  (hF : F_X7_kindHere  u  = some (r, u')) : MR l D cc a yX7_kindHere cX7_kindHere 1 (some .int) 1 22 [.ref (a 0)] u (some (.int r)) u' := by
  refine MM.ofW (by decide) (fun p e s m below meth c S hr hlocks hK hEs hP hD hS => ?_)
  have S : CallFix p m c cX7_kindHere 1 s _ gtbl RX7 := S
  obtain ⟨hx, hb, hml, hown, hts⟩ := id S
  have b85 : ∀  (u : Mem) (y0 : Int32) , F_X7_kindHere_85  u y0 = some (r, u') → BW p l e s m below meth c 1 22 [.ref (a 0)] D (AM a) (some (.int r)) (wlM cc a u') 1 (wlM cc a u) 85 [] [.int y0] := by
    intro  u y0 hF H locs ls hP hD hS hl
    unfold F_X7_kindHere_85 at hF
    obtain ⟨rfl, rfl⟩ := sp_eq hF
    exact retI S hr hlocks hP hD hS dX7_kindHere_85
  unfold F_X7_kindHere at hF
  have b_main : BW p l e s m below meth c 1 22 [.ref (a 0)] D (AM a) (some (.int r)) (wlM cc a u') 1 (wlM cc a u) 0 [(0, .ref (a 0))] [] := by
    intro H locs ls hP hD hS hl
    refine lv_aload_n hx hb dX7_kindHere_0 rfl (lv_at hl 0 rfl) ?_
    refine lv_ldc2 hx hb hown (hts _ q1255) dX7_kindHere_1 ?_
    obtain ⟨r2, u1, e3, hF⟩ := bdI_some hF
    refine MM.callVi (m_X7_isWord e3) k_X7_229 S emOK hEs hK ⟨by decide, by decide⟩ (va_recv hK hP rfl c_MO) rfl rfl hl.1 (Nat.le_of_ble_eq_true rfl) dX7_kindHere_4 ⟨Nat.le_refl _, Nat.le_refl _⟩ hP hD hS (fun H locs hP hD hS => ?_)
    refine lv_if_eq (tgt := 14) hx hb dX7_kindHere_7 (by decide) (fun c4 => ?_) (fun c4 => ?_)
    · have hF := ite_t hF c4
      refine lv_aload_n hx hb dX7_kindHere_14 rfl (lv_at hl 0 rfl) ?_
      refine lv_ldc2 hx hb hown (hts _ q1260) dX7_kindHere_15 ?_
      obtain ⟨r6, u5, e7, hF⟩ := bdI_some hF
      refine MM.callVi (m_X7_isWord e7) k_X7_229 S emOK hEs hK ⟨by decide, by decide⟩ (va_recv hK hP rfl c_MO) rfl rfl hl.1 (Nat.le_of_ble_eq_true rfl) dX7_kindHere_18 ⟨Nat.le_refl _, Nat.le_refl _⟩ hP hD hS (fun H locs hP hD hS => ?_)
      refine lv_if_eq (tgt := 28) hx hb dX7_kindHere_21 (by decide) (fun c8 => ?_) (fun c8 => ?_)
      · have hF := ite_t hF c8
        refine lv_aload_n hx hb dX7_kindHere_28 rfl (lv_at hl 0 rfl) ?_
        refine lv_ldc2 hx hb hown (hts _ q1261) dX7_kindHere_29 ?_
        obtain ⟨r10, u9, e11, hF⟩ := bdI_some hF
        refine MM.callVi (m_X7_isWord e11) k_X7_229 S emOK hEs hK ⟨by decide, by decide⟩ (va_recv hK hP rfl c_MO) rfl rfl hl.1 (Nat.le_of_ble_eq_true rfl) dX7_kindHere_32 ⟨Nat.le_refl _, Nat.le_refl _⟩ hP hD hS (fun H locs hP hD hS => ?_)
        refine lv_if_eq (tgt := 42) hx hb dX7_kindHere_35 (by decide) (fun c12 => ?_) (fun c12 => ?_)
        · have hF := ite_t hF c12
          refine lv_aload_n hx hb dX7_kindHere_42 rfl (lv_at hl 0 rfl) ?_
          refine lv_ldc2 hx hb hown (hts _ q1262) dX7_kindHere_43 ?_
          obtain ⟨r14, u13, e15, hF⟩ := bdI_some hF
          refine MM.callVi (m_X7_isWord e15) k_X7_229 S emOK hEs hK ⟨by decide, by decide⟩ (va_recv hK hP rfl c_MO) rfl rfl hl.1 (Nat.le_of_ble_eq_true rfl) dX7_kindHere_46 ⟨Nat.le_refl _, Nat.le_refl _⟩ hP hD hS (fun H locs hP hD hS => ?_)
          refine lv_if_eq (tgt := 56) hx hb dX7_kindHere_49 (by decide) (fun c16 => ?_) (fun c16 => ?_)
          · have hF := ite_t hF c16
            refine lv_aload_n hx hb dX7_kindHere_56 rfl (lv_at hl 0 rfl) ?_
            refine lv_ldc2 hx hb hown (hts _ q1263) dX7_kindHere_57 ?_
            obtain ⟨r18, u17, e19, hF⟩ := bdI_some hF
            refine MM.callVi (m_X7_isWord e19) k_X7_229 S emOK hEs hK ⟨by decide, by decide⟩ (va_recv hK hP rfl c_MO) rfl rfl hl.1 (Nat.le_of_ble_eq_true rfl) dX7_kindHere_60 ⟨Nat.le_refl _, Nat.le_refl _⟩ hP hD hS (fun H locs hP hD hS => ?_)
            refine lv_if_eq (tgt := 70) hx hb dX7_kindHere_63 (by decide) (fun c20 => ?_) (fun c20 => ?_)
            · have hF := ite_t hF c20
              refine lv_aload_n hx hb dX7_kindHere_70 rfl (lv_at hl 0 rfl) ?_
              refine lv_ldc2 hx hb hown (hts _ q1264) dX7_kindHere_71 ?_
              obtain ⟨r22, u21, e23, hF⟩ := bdI_some hF
              refine MM.callVi (m_X7_isWord e23) k_X7_229 S emOK hEs hK ⟨by decide, by decide⟩ (va_recv hK hP rfl c_MO) rfl rfl hl.1 (Nat.le_of_ble_eq_true rfl) dX7_kindHere_74 ⟨Nat.le_refl _, Nat.le_refl _⟩ hP hD hS (fun H locs hP hD hS => ?_)
              refine lv_if_eq (tgt := 84) hx hb dX7_kindHere_77 (by decide) (fun c24 => ?_) (fun c24 => ?_)
              · have hF := ite_t hF c24
                refine lv_iconst (v := -1) hx hb dX7_kindHere_84 (by decide) ?_
                exact b85 _ _  hF H locs ls hP hD hS (lv_sub hl [] rfl)
              · have hF := ite_f hF c24
                refine lv_iconst (v := 5) hx hb dX7_kindHere_80 (by decide) ?_
                refine lv_goto (tgt := 85) hx hb dX7_kindHere_81 (by decide) ?_
                exact b85 _ _  hF H locs ls hP hD hS (lv_sub hl [] rfl)
            · have hF := ite_f hF c20
              refine lv_iconst (v := 4) hx hb dX7_kindHere_66 (by decide) ?_
              refine lv_goto (tgt := 85) hx hb dX7_kindHere_67 (by decide) ?_
              exact b85 _ _  hF H locs ls hP hD hS (lv_sub hl [] rfl)
          · have hF := ite_f hF c16
            refine lv_iconst (v := 3) hx hb dX7_kindHere_52 (by decide) ?_
            refine lv_goto (tgt := 85) hx hb dX7_kindHere_53 (by decide) ?_
            exact b85 _ _  hF H locs ls hP hD hS (lv_sub hl [] rfl)
        · have hF := ite_f hF c12
          refine lv_iconst (v := 2) hx hb dX7_kindHere_38 (by decide) ?_
          refine lv_goto (tgt := 85) hx hb dX7_kindHere_39 (by decide) ?_
          exact b85 _ _  hF H locs ls hP hD hS (lv_sub hl [] rfl)
      · have hF := ite_f hF c8
        refine lv_iconst (v := 1) hx hb dX7_kindHere_24 (by decide) ?_
        refine lv_goto (tgt := 85) hx hb dX7_kindHere_25 (by decide) ?_
        exact b85 _ _  hF H locs ls hP hD hS (lv_sub hl [] rfl)
    · have hF := ite_f hF c4
      refine lv_iconst (v := 0) hx hb dX7_kindHere_10 (by decide) ?_
      refine lv_goto (tgt := 85) hx hb dX7_kindHere_11 (by decide) ?_
      exact b85 _ _  hF H locs ls hP hD hS (lv_sub hl [] rfl)
  have hl := lv_entry ([.ref (a 0)]) (n := 1) (Nat.le_of_ble_eq_true rfl)
  rw [lg_entry_eq]
  generalize (lg_sl ([.ref (a 0)]) ++ List.replicate (1 - (lg_sl ([.ref (a 0)])).length) Slot.unset).toArray = ls at hl ⊢
  exact b_main _ _ _ hP hD hS hl

set_option maxRecDepth 100000 in
set_option maxHeartbeats 4000000 in
theorem m_X7_wantNumber  {x1 : Int32} {x2 : Int32} {u u' : Mem} {r : Int32}  (hF : F_X7_wantNumber  u x1 x2 = some (r, u')) : MR l D cc a yX7_wantNumber cX7_wantNumber 4 (some .int) 3 63 [.ref (a 0), .int x1, .int x2] u (some (.int r)) u' := by
  refine MM.ofW (by decide) (fun p e s m below meth c S hr hlocks hK hEs hP hD hS => ?_)
  have S : CallFix p m c cX7_wantNumber 4 s _ gtbl RX7 := S
  obtain ⟨hx, hb, hml, hown, hts⟩ := id S
  have b49 : ∀  (u : Mem) (v3 : Int32) , F_X7_wantNumber_49  u v3 = some (r, u') → BW p l e s m below meth c 3 63 [.ref (a 0), .int x1, .int x2] D (AM a) (some (.int r)) (wlM cc a u') 4 (wlM cc a u) 49 [(3, .int v3)] [] := by
    intro  u v3 hF H locs ls hP hD hS hl
    unfold F_X7_wantNumber_49 at hF
    refine lv_iload_n hx hb dX7_wantNumber_49 rfl (lv_at hl 0 rfl) ?_
    obtain ⟨rfl, rfl⟩ := sp_eq hF
    exact retI S hr hlocks hP hD hS dX7_wantNumber_50
  have b35 : ∀  (u : Mem) (v3 : Int32) (y1 : Int32) , F_X7_wantNumber_35  u v3 y1 = some (r, u') → BW p l e s m below meth c 3 63 [.ref (a 0), .int x1, .int x2] D (AM a) (some (.int r)) (wlM cc a u') 4 (wlM cc a u) 35 [(0, .ref (a 0)), (3, .int v3)] [.int y1, .ref (a 0)] := by
    intro  u v3 y1 hF H locs ls hP hD hS hl
    unfold F_X7_wantNumber_35 at hF
    obtain ⟨hz1, hF⟩ := gz_some hF
    refine va_put_w S igX7 tyX7 tyX7_ok nmX7 hK hP hD hS _ c_MO rfl 15 (by decide) q894 rfl rfl (ty := .boolean) (tyX7_ok 15 (by decide)) (nz_ok hz1) (fz_ok hz1) (Nat.le_of_ble_eq_true rfl) (z_MO (by decide)) dX7_wantNumber_35 (fun H locs hP hD hS => ?_)
    refine lv_aload_n hx hb dX7_wantNumber_38 rfl (lv_at hl 0 rfl) ?_
    refine va_get_w S hK hP _ c_MO rfl igX7 15 (by decide) q894 rfl rfl dX7_wantNumber_39 ?_
    refine lv_if_eq (tgt := 49) hx hb dX7_wantNumber_42 (by decide) (fun c2 => ?_) (fun c2 => ?_)
    · have hF := ite_t hF c2
      exact b49 _ _  hF H locs ls hP hD hS (lv_sub hl [1] rfl)
    · have hF := ite_f hF c2
      refine lv_aload_n hx hb dX7_wantNumber_45 rfl (lv_at hl 0 rfl) ?_
      obtain ⟨u3, e5, hF⟩ := bdV_some hF
      refine MM.callVv (m_X7_advance e5) k_X7_247 S emOK hEs hK ⟨by decide, by decide⟩ (va_recv hK hP rfl c_MO) rfl rfl hl.1 (Nat.le_of_ble_eq_true rfl) dX7_wantNumber_46 ⟨Nat.le_refl _, Nat.le_refl _⟩ hP hD hS (fun H locs hP hD hS => ?_)
      exact b49 _ _  hF H locs ls hP hD hS (lv_sub hl [1] rfl)
  have b34 : ∀  (u : Mem) (v3 : Int32) , F_X7_wantNumber_34  u v3 = some (r, u') → BW p l e s m below meth c 3 63 [.ref (a 0), .int x1, .int x2] D (AM a) (some (.int r)) (wlM cc a u') 4 (wlM cc a u) 34 [(0, .ref (a 0)), (3, .int v3)] [.ref (a 0)] := by
    intro  u v3 hF H locs ls hP hD hS hl
    unfold F_X7_wantNumber_34 at hF
    refine lv_iconst (v := 0) hx hb dX7_wantNumber_34 (by decide) ?_
    exact b35 _ _ _  hF H locs ls hP hD hS (lv_sub hl [0, 1] rfl)
  unfold F_X7_wantNumber at hF
  have b_main : BW p l e s m below meth c 3 63 [.ref (a 0), .int x1, .int x2] D (AM a) (some (.int r)) (wlM cc a u') 4 (wlM cc a u) 0 [(0, .ref (a 0)), (1, .int x1), (2, .int x2)] [] := by
    intro H locs ls hP hD hS hl
    refine lv_aload_n hx hb dX7_wantNumber_0 rfl (lv_at hl 0 rfl) ?_
    refine va_get_w S hK hP _ c_MO rfl igX7 14 (by decide) q893 rfl rfl dX7_wantNumber_1 ?_
    refine lv_istore_n (lv' := [(3, .int _), (0, .ref _), (1, .int _), (2, .int _)]) hx hb dX7_wantNumber_4 rfl hl (by decide) rfl (fun ls hl => ?_)
    refine lv_aload_n hx hb dX7_wantNumber_5 rfl (lv_at hl 1 rfl) ?_
    refine lv_aload_n hx hb dX7_wantNumber_6 rfl (lv_at hl 1 rfl) ?_
    refine va_get_w S hK hP _ c_MO rfl igX7 15 (by decide) q894 rfl rfl dX7_wantNumber_7 ?_
    refine lv_if_eq (tgt := 34) hx hb dX7_wantNumber_10 (by decide) (fun c6 => ?_) (fun c6 => ?_)
    · have hF := ite_t hF c6
      exact b34 _ _  hF H locs ls hP hD hS (lv_sub hl [1, 0] rfl)
    · have hF := ite_f hF c6
      refine lv_aload_n hx hb dX7_wantNumber_13 rfl (lv_at hl 1 rfl) ?_
      refine va_get_w S hK hP _ c_MO rfl igX7 10 (by decide) q889 rfl rfl dX7_wantNumber_14 ?_
      refine lv_iconst (v := 2) hx hb dX7_wantNumber_17 (by decide) ?_
      refine lv_icmp_ne (tgt := 34) hx hb dX7_wantNumber_18 (by decide) (fun c7 => ?_) (fun c7 => ?_)
      · have hF := ite_f hF c7
        exact b34 _ _  hF H locs ls hP hD hS (lv_sub hl [1, 0] rfl)
      · have hF := ite_t hF c7
        refine lv_iload_n hx hb dX7_wantNumber_21 rfl (lv_at hl 0 rfl) ?_
        refine lv_iload_n hx hb dX7_wantNumber_22 rfl (lv_at hl 2 rfl) ?_
        refine lv_iload_n hx hb dX7_wantNumber_23 rfl (lv_at hl 3 rfl) ?_
        obtain ⟨r9, u8, e10, hF⟩ := bdI_some hF
        refine MM.callSi (m_X7_in e10) k_X7_64 S emOK hEs hK ⟨by decide, by decide⟩ rfl rfl hl.1 (Nat.le_of_ble_eq_true rfl) dX7_wantNumber_24 ⟨Nat.le_refl _, Nat.le_refl _⟩ hP hD hS (fun H locs hP hD hS => ?_)
        refine lv_if_eq (tgt := 34) hx hb dX7_wantNumber_27 (by decide) (fun c11 => ?_) (fun c11 => ?_)
        · have hF := ite_t hF c11
          exact b34 _ _  hF H locs ls hP hD hS (lv_sub hl [1, 0] rfl)
        · have hF := ite_f hF c11
          refine lv_iconst (v := 1) hx hb dX7_wantNumber_30 (by decide) ?_
          refine lv_goto (tgt := 35) hx hb dX7_wantNumber_31 (by decide) ?_
          exact b35 _ _ _  hF H locs ls hP hD hS (lv_sub hl [1, 0] rfl)
  have hl := lv_entry ([.ref (a 0), .int x1, .int x2]) (n := 4) (Nat.le_of_ble_eq_true rfl)
  rw [lg_entry_eq]
  generalize (lg_sl ([.ref (a 0), .int x1, .int x2]) ++ List.replicate (4 - (lg_sl ([.ref (a 0), .int x1, .int x2])).length) Slot.unset).toArray = ls at hl ⊢
  exact b_main _ _ _ hP hD hS hl

set_option maxRecDepth 100000 in
set_option maxHeartbeats 4000000 in
theorem m_X7_mayWant  {x1 : Int64} {x3 : Int32} {x4 : Int32} {x5 : Int32} {u u' : Mem} {r : Int32}  (hF : F_X7_mayWant  u x1 x3 x4 x5 = some (r, u')) : MR l D cc a yX7_mayWant cX7_mayWant 6 (some .int) 4 86 [.ref (a 0), .long x1, .int x3, .int x4, .int x5] u (some (.int r)) u' := by
  refine MM.ofW (by decide) (fun p e s m below meth c S hr hlocks hK hEs hP hD hS => ?_)
  have S : CallFix p m c cX7_mayWant 6 s _ gtbl RX7 := S
  obtain ⟨hx, hb, hml, hown, hts⟩ := id S
  have b15 : ∀  (u : Mem) (v5 : Int32) , F_X7_mayWant_15  u v5 = some (r, u') → BW p l e s m below meth c 4 86 [.ref (a 0), .long x1, .int x3, .int x4, .int x5] D (AM a) (some (.int r)) (wlM cc a u') 6 (wlM cc a u) 15 [(5, .int v5)] [] := by
    intro  u v5 hF H locs ls hP hD hS hl
    unfold F_X7_mayWant_15 at hF
    refine lv_iload hx hb dX7_mayWant_15 (lv_at hl 0 rfl) ?_
    obtain ⟨rfl, rfl⟩ := sp_eq hF
    exact retI S hr hlocks hP hD hS dX7_mayWant_17
  unfold F_X7_mayWant at hF
  have b_main : BW p l e s m below meth c 4 86 [.ref (a 0), .long x1, .int x3, .int x4, .int x5] D (AM a) (some (.int r)) (wlM cc a u') 6 (wlM cc a u) 0 [(0, .ref (a 0)), (1, .long x1), (3, .int x3), (4, .int x4), (5, .int x5)] [] := by
    intro H locs ls hP hD hS hl
    refine lv_aload_n hx hb dX7_mayWant_0 rfl (lv_at hl 0 rfl) ?_
    refine va_get_w S hK hP _ c_MO rfl igX7 15 (by decide) q894 rfl rfl dX7_mayWant_1 ?_
    refine lv_if_eq (tgt := 15) hx hb dX7_mayWant_4 (by decide) (fun c1 => ?_) (fun c1 => ?_)
    · have hF := ite_t hF c1
      exact b15 _ _  hF H locs ls hP hD hS (lv_sub hl [4] rfl)
    · have hF := ite_f hF c1
      refine lv_aload_n hx hb dX7_mayWant_7 rfl (lv_at hl 0 rfl) ?_
      refine lv_lload_n hx hb dX7_mayWant_8 rfl (lv_at hl 1 rfl) ?_
      obtain ⟨r3, u2, e4, hF⟩ := bdI_some hF
      refine MM.callVi (m_X7_isWord e4) k_X7_229 S emOK hEs hK ⟨by decide, by decide⟩ (va_recv hK hP rfl c_MO) rfl rfl hl.1 (Nat.le_of_ble_eq_true rfl) dX7_mayWant_9 ⟨Nat.le_refl _, Nat.le_refl _⟩ hP hD hS (fun H locs hP hD hS => ?_)
      refine lv_if_ne (tgt := 18) hx hb dX7_mayWant_12 (by decide) (fun c5 => ?_) (fun c5 => ?_)
      · have hF := ite_f hF c5
        refine lv_aload_n hx hb dX7_mayWant_18 rfl (lv_at hl 0 rfl) ?_
        obtain ⟨u6, e8, hF⟩ := bdV_some hF
        refine MM.callVv (m_X7_advance e8) k_X7_247 S emOK hEs hK ⟨by decide, by decide⟩ (va_recv hK hP rfl c_MO) rfl rfl hl.1 (Nat.le_of_ble_eq_true rfl) dX7_mayWant_19 ⟨Nat.le_refl _, Nat.le_refl _⟩ hP hD hS (fun H locs hP hD hS => ?_)
        refine lv_aload_n hx hb dX7_mayWant_22 rfl (lv_at hl 0 rfl) ?_
        refine lv_iload_n hx hb dX7_mayWant_23 rfl (lv_at hl 2 rfl) ?_
        refine lv_iload hx hb dX7_mayWant_24 (lv_at hl 3 rfl) ?_
        obtain ⟨r10, u9, e11, hF⟩ := bdI_some hF
        refine MM.callVi (m_X7_wantNumber e11) k_X7_250 S emOK hEs hK ⟨by decide, by decide⟩ (va_recv hK hP rfl c_MO) rfl rfl hl.1 (Nat.le_of_ble_eq_true rfl) dX7_mayWant_26 ⟨Nat.le_refl _, Nat.le_refl _⟩ hP hD hS (fun H locs hP hD hS => ?_)
        obtain ⟨rfl, rfl⟩ := sp_eq hF
        exact retI S hr hlocks hP hD hS dX7_mayWant_29
      · have hF := ite_t hF c5
        exact b15 _ _  hF H locs ls hP hD hS (lv_sub hl [4] rfl)
  have hl := lv_entry ([.ref (a 0), .long x1, .int x3, .int x4, .int x5]) (n := 6) (Nat.le_of_ble_eq_true rfl)
  rw [lg_entry_eq]
  generalize (lg_sl ([.ref (a 0), .long x1, .int x3, .int x4, .int x5]) ++ List.replicate (6 - (lg_sl ([.ref (a 0), .long x1, .int x3, .int x4, .int x5])).length) Slot.unset).toArray = ls at hl ⊢
  exact b_main _ _ _ hP hD hS hl

set_option maxRecDepth 100000 in
set_option maxHeartbeats 4000000 in
theorem m_X7_wantPrint  {x1 : Int32} {u u' : Mem}  (hF : F_X7_wantPrint  u x1 = some u') : MR l D cc a yX7_wantPrint cX7_wantPrint 8 none 5 111 [.ref (a 0), .int x1] u none u' := by
  refine MM.ofW (by decide) (fun p e s m below meth c S hr hlocks hK hEs hP hD hS => ?_)
  have S : CallFix p m c cX7_wantPrint 8 s _ gtbl RX7 := S
  obtain ⟨hx, hb, hml, hown, hts⟩ := id S
  have b209 : ∀  (u : Mem)  , F_X7_wantPrint_209  u  = some u' → BW p l e s m below meth c 5 111 [.ref (a 0), .int x1] D (AM a) none (wlM cc a u') 8 (wlM cc a u) 209 [] [] := by
    intro  u  hF H locs ls hP hD hS hl
    unfold F_X7_wantPrint_209 at hF
    obtain rfl := sv_eq hF
    exact retV S hr hlocks hP hD hS dX7_wantPrint_209
  have b206 : ∀  (u : Mem) (y1 : Int32) (y2 : Int64) (y3 : Int32) (y4 : Int32) (y5 : Int32) , F_X7_wantPrint_206  u y1 y2 y3 y4 y5 = some u' → BW p l e s m below meth c 5 111 [.ref (a 0), .int x1] D (AM a) none (wlM cc a u') 8 (wlM cc a u) 206 [] [.int y5, .int y4, .int y3, .long y2, .int y1, .ref (a 0)] := by
    intro  u y1 y2 y3 y4 y5 hF H locs ls hP hD hS hl
    unfold F_X7_wantPrint_206 at hF
    obtain ⟨u1, e3, hF⟩ := bdV_some hF
    refine MM.callVv (m_X7_addPrint e3) k_X7_99 S emOK hEs hK ⟨by decide, by decide⟩ (va_recv hK hP rfl c_MO) rfl rfl hl.1 (Nat.le_of_ble_eq_true rfl) dX7_wantPrint_206 ⟨Nat.le_refl _, Nat.le_refl _⟩ hP hD hS (fun H locs hP hD hS => ?_)
    exact b209 _  hF H locs ls hP hD hS (lv_sub hl [] rfl)
  have b182 : ∀  (u : Mem) (v1 : Int32) (v2 : Int64) (v5 : Int32) (v6 : Int32) (v7 : Int32) , F_X7_wantPrint_182  u v1 v2 v5 v6 v7 = some u' → BW p l e s m below meth c 5 111 [.ref (a 0), .int x1] D (AM a) none (wlM cc a u') 8 (wlM cc a u) 182 [(0, .ref (a 0)), (1, .int v1), (2, .long v2), (5, .int v5), (6, .int v6), (7, .int v7)] [] := by
    intro  u v1 v2 v5 v6 v7 hF H locs ls hP hD hS hl
    unfold F_X7_wantPrint_182 at hF
    refine lv_aload_n hx hb dX7_wantPrint_182 rfl (lv_at hl 0 rfl) ?_
    refine va_get_w S hK hP _ c_MO rfl igX7 15 (by decide) q894 rfl rfl dX7_wantPrint_183 ?_
    refine lv_if_eq (tgt := 209) hx hb dX7_wantPrint_186 (by decide) (fun c4 => ?_) (fun c4 => ?_)
    · have hF := ite_t hF c4
      exact b209 _  hF H locs ls hP hD hS (lv_sub hl [] rfl)
    · have hF := ite_f hF c4
      refine lv_aload_n hx hb dX7_wantPrint_189 rfl (lv_at hl 0 rfl) ?_
      refine lv_iload_n hx hb dX7_wantPrint_190 rfl (lv_at hl 1 rfl) ?_
      refine lv_lload_n hx hb dX7_wantPrint_191 rfl (lv_at hl 2 rfl) ?_
      refine lv_iload hx hb dX7_wantPrint_192 (lv_at hl 3 rfl) ?_
      refine lv_iload hx hb dX7_wantPrint_194 (lv_at hl 4 rfl) ?_
      refine lv_iload hx hb dX7_wantPrint_196 (lv_at hl 5 rfl) ?_
      refine lv_if_eq (tgt := 205) hx hb dX7_wantPrint_198 (by decide) (fun c5 => ?_) (fun c5 => ?_)
      · have hF := ite_t hF c5
        refine lv_iconst (v := 0) hx hb dX7_wantPrint_205 (by decide) ?_
        exact b206 _ _ _ _ _ _  hF H locs ls hP hD hS (lv_sub hl [] rfl)
      · have hF := ite_f hF c5
        refine lv_iconst (v := 1) hx hb dX7_wantPrint_201 (by decide) ?_
        refine lv_goto (tgt := 206) hx hb dX7_wantPrint_202 (by decide) ?_
        exact b206 _ _ _ _ _ _  hF H locs ls hP hD hS (lv_sub hl [] rfl)
  have b171 : ∀  (u : Mem) (v1 : Int32) (v2 : Int64) (v5 : Int32) (v6 : Int32) (y0 : Int32) , F_X7_wantPrint_171  u v1 v2 v5 v6 y0 = some u' → BW p l e s m below meth c 5 111 [.ref (a 0), .int x1] D (AM a) none (wlM cc a u') 8 (wlM cc a u) 171 [(0, .ref (a 0)), (1, .int v1), (2, .long v2), (5, .int v5), (6, .int v6)] [.int y0] := by
    intro  u v1 v2 v5 v6 y0 hF H locs ls hP hD hS hl
    unfold F_X7_wantPrint_171 at hF
    refine lv_istore (lv' := [(7, .int _), (0, .ref _), (1, .int _), (2, .long _), (5, .int _), (6, .int _)]) hx hb dX7_wantPrint_171 hl (by decide) rfl (fun ls hl => ?_)
    refine lv_iload hx hb dX7_wantPrint_173 (lv_at hl 0 rfl) ?_
    refine lv_if_eq (tgt := 182) hx hb dX7_wantPrint_175 (by decide) (fun c6 => ?_) (fun c6 => ?_)
    · have hF := ite_t hF c6
      exact b182 _ _ _ _ _ _  hF H locs ls hP hD hS (lv_sub hl [1, 2, 3, 4, 5, 0] rfl)
    · have hF := ite_f hF c6
      refine lv_aload_n hx hb dX7_wantPrint_178 rfl (lv_at hl 1 rfl) ?_
      obtain ⟨u7, e9, hF⟩ := bdV_some hF
      refine MM.callVv (m_X7_advance e9) k_X7_247 S emOK hEs hK ⟨by decide, by decide⟩ (va_recv hK hP rfl c_MO) rfl rfl hl.1 (Nat.le_of_ble_eq_true rfl) dX7_wantPrint_179 ⟨Nat.le_refl _, Nat.le_refl _⟩ hP hD hS (fun H locs hP hD hS => ?_)
      exact b182 _ _ _ _ _ _  hF H locs ls hP hD hS (lv_sub hl [1, 2, 3, 4, 5, 0] rfl)
  have b170 : ∀  (u : Mem) (v1 : Int32) (v2 : Int64) (v5 : Int32) (v6 : Int32) , F_X7_wantPrint_170  u v1 v2 v5 v6 = some u' → BW p l e s m below meth c 5 111 [.ref (a 0), .int x1] D (AM a) none (wlM cc a u') 8 (wlM cc a u) 170 [(0, .ref (a 0)), (1, .int v1), (2, .long v2), (5, .int v5), (6, .int v6)] [] := by
    intro  u v1 v2 v5 v6 hF H locs ls hP hD hS hl
    unfold F_X7_wantPrint_170 at hF
    refine lv_iconst (v := 0) hx hb dX7_wantPrint_170 (by decide) ?_
    exact b171 _ _ _ _ _ _  hF H locs ls hP hD hS (lv_sub hl [0, 1, 2, 3, 4] rfl)
  have b119 : ∀  (u : Mem) (v1 : Int32) (v2 : Int64) , F_X7_wantPrint_119  u v1 v2 = some u' → BW p l e s m below meth c 5 111 [.ref (a 0), .int x1] D (AM a) none (wlM cc a u') 8 (wlM cc a u) 119 [(0, .ref (a 0)), (1, .int v1), (2, .long v2)] [] := by
    intro  u v1 v2 hF H locs ls hP hD hS hl
    unfold F_X7_wantPrint_119 at hF
    refine lv_aload_n hx hb dX7_wantPrint_119 rfl (lv_at hl 0 rfl) ?_
    refine lv_ldc2 hx hb hown (hts _ q1269) dX7_wantPrint_120 ?_
    refine lv_iconst (v := 1) hx hb dX7_wantPrint_123 (by decide) ?_
    refine lv_sipush (v := 9999) hx hb dX7_wantPrint_124 (by decide) ?_
    refine lv_sipush (v := 1000) hx hb dX7_wantPrint_127 (by decide) ?_
    obtain ⟨r11, u10, e12, hF⟩ := bdI_some hF
    refine MM.callVi (m_X7_mayWant e12) k_X7_255 S emOK hEs hK ⟨by decide, by decide⟩ (va_recv hK hP rfl c_MO) rfl rfl hl.1 (Nat.le_of_ble_eq_true rfl) dX7_wantPrint_130 ⟨Nat.le_refl _, Nat.le_refl _⟩ hP hD hS (fun H locs hP hD hS => ?_)
    refine lv_istore (lv' := [(5, .int _), (0, .ref _), (1, .int _), (2, .long _)]) hx hb dX7_wantPrint_133 hl (by decide) rfl (fun ls hl => ?_)
    refine lv_aload_n hx hb dX7_wantPrint_135 rfl (lv_at hl 1 rfl) ?_
    refine lv_ldc2 hx hb hown (hts _ q1278) dX7_wantPrint_136 ?_
    refine lv_iconst (v := 0) hx hb dX7_wantPrint_139 (by decide) ?_
    refine lv_sipush (v := 2000) hx hb dX7_wantPrint_140 (by decide) ?_
    refine lv_iconst (v := 0) hx hb dX7_wantPrint_143 (by decide) ?_
    obtain ⟨r14, u13, e15, hF⟩ := bdI_some hF
    refine MM.callVi (m_X7_mayWant e15) k_X7_255 S emOK hEs hK ⟨by decide, by decide⟩ (va_recv hK hP rfl c_MO) rfl rfl hl.1 (Nat.le_of_ble_eq_true rfl) dX7_wantPrint_144 ⟨Nat.le_refl _, Nat.le_refl _⟩ hP hD hS (fun H locs hP hD hS => ?_)
    refine lv_istore (lv' := [(6, .int _), (5, .int _), (0, .ref _), (1, .int _), (2, .long _)]) hx hb dX7_wantPrint_147 hl (by decide) rfl (fun ls hl => ?_)
    refine lv_aload_n hx hb dX7_wantPrint_149 rfl (lv_at hl 2 rfl) ?_
    refine va_get_w S hK hP _ c_MO rfl igX7 15 (by decide) q894 rfl rfl dX7_wantPrint_150 ?_
    refine lv_if_eq (tgt := 170) hx hb dX7_wantPrint_153 (by decide) (fun c16 => ?_) (fun c16 => ?_)
    · have hF := ite_t hF c16
      exact b170 _ _ _ _ _  hF H locs ls hP hD hS (lv_sub hl [2, 3, 4, 1, 0] rfl)
    · have hF := ite_f hF c16
      refine lv_aload_n hx hb dX7_wantPrint_156 rfl (lv_at hl 2 rfl) ?_
      refine lv_ldc2 hx hb hown (hts _ q1279) dX7_wantPrint_157 ?_
      obtain ⟨r18, u17, e19, hF⟩ := bdI_some hF
      refine MM.callVi (m_X7_isWord e19) k_X7_229 S emOK hEs hK ⟨by decide, by decide⟩ (va_recv hK hP rfl c_MO) rfl rfl hl.1 (Nat.le_of_ble_eq_true rfl) dX7_wantPrint_160 ⟨Nat.le_refl _, Nat.le_refl _⟩ hP hD hS (fun H locs hP hD hS => ?_)
      refine lv_if_eq (tgt := 170) hx hb dX7_wantPrint_163 (by decide) (fun c20 => ?_) (fun c20 => ?_)
      · have hF := ite_t hF c20
        exact b170 _ _ _ _ _  hF H locs ls hP hD hS (lv_sub hl [2, 3, 4, 1, 0] rfl)
      · have hF := ite_f hF c20
        refine lv_iconst (v := 1) hx hb dX7_wantPrint_166 (by decide) ?_
        refine lv_goto (tgt := 171) hx hb dX7_wantPrint_167 (by decide) ?_
        exact b171 _ _ _ _ _ _  hF H locs ls hP hD hS (lv_sub hl [2, 3, 4, 1, 0] rfl)
  have b90 : ∀ (k36 : Mem → Int32 → Int64 → Int32 → Option Mem) (hk36 : ∀ (u : Mem) (v1 : Int32) (v2 : Int64) (v4 : Int32) , k36 u v1 v2 v4 = some u' → BW p l e s m below meth c 5 111 [.ref (a 0), .int x1] D (AM a) none (wlM cc a u') 8 (wlM cc a u) 36 [(0, .ref (a 0)), (1, .int v1), (2, .long v2), (4, .int v4)] []) (u : Mem) (v1 : Int32) (v2 : Int64) (v4 : Int32) (y1 : Int32) , F_X7_wantPrint_90 k36 u v1 v2 v4 y1 = some u' → BW p l e s m below meth c 5 111 [.ref (a 0), .int x1] D (AM a) none (wlM cc a u') 8 (wlM cc a u) 90 [(0, .ref (a 0)), (1, .int v1), (2, .long v2), (4, .int v4)] [.int y1, .ref (a 0)] := by
    intro k36 hk36 u v1 v2 v4 y1 hF H locs ls hP hD hS hl
    unfold F_X7_wantPrint_90 at hF
    obtain ⟨hz21, hF⟩ := gz_some hF
    refine va_put_w S igX7 tyX7 tyX7_ok nmX7 hK hP hD hS _ c_MO rfl 15 (by decide) q894 rfl rfl (ty := .boolean) (tyX7_ok 15 (by decide)) (nz_ok hz21) (fz_ok hz21) (Nat.le_of_ble_eq_true rfl) (z_MO (by decide)) dX7_wantPrint_90 (fun H locs hP hD hS => ?_)
    refine lv_aload_n hx hb dX7_wantPrint_93 rfl (lv_at hl 0 rfl) ?_
    refine va_get_w S hK hP _ c_MO rfl igX7 15 (by decide) q894 rfl rfl dX7_wantPrint_94 ?_
    refine lv_if_eq (tgt := 36) hx hb dX7_wantPrint_97 (by decide) (fun c22 => ?_) (fun c22 => ?_)
    · have hF := ite_t hF c22
      exact hk36 _ _ _ _  hF H locs ls hP hD hS (lv_sub hl [0, 1, 2, 3] rfl)
    · have hF := ite_f hF c22
      refine lv_lload_n hx hb dX7_wantPrint_100 rfl (lv_at hl 2 rfl) ?_
      refine lv_lconst (v := 1) hx hb dX7_wantPrint_101 (by decide) ?_
      refine lv_aload_n hx hb dX7_wantPrint_102 rfl (lv_at hl 0 rfl) ?_
      refine va_get_w S hK hP _ c_MO rfl igX7 14 (by decide) q893 rfl rfl dX7_wantPrint_103 ?_
      refine lv_lshl hx hb dX7_wantPrint_106 rfl ?_
      refine lv_lor hx hb dX7_wantPrint_107 ?_
      refine lv_lstore_n (lv' := [(2, .long _), (0, .ref _), (1, .int _), (4, .int _)]) hx hb dX7_wantPrint_108 rfl hl (by decide) rfl (fun ls hl => ?_)
      refine lv_inc1 (k := 3) (lv' := [(4, .int _), (2, .long _), (0, .ref _), (1, .int _)]) hx hb dX7_wantPrint_109 hl rfl (by decide) rfl (fun ls hl => ?_)
      refine lv_aload_n hx hb dX7_wantPrint_112 rfl (lv_at hl 2 rfl) ?_
      obtain ⟨u23, e25, hF⟩ := bdV_some hF
      refine MM.callVv (m_X7_advance e25) k_X7_247 S emOK hEs hK ⟨by decide, by decide⟩ (va_recv hK hP rfl c_MO) rfl rfl hl.1 (Nat.le_of_ble_eq_true rfl) dX7_wantPrint_113 ⟨Nat.le_refl _, Nat.le_refl _⟩ hP hD hS (fun H locs hP hD hS => ?_)
      refine lv_goto (tgt := 36) hx hb dX7_wantPrint_116 (by decide) ?_
      exact hk36 _ _ _ _  hF H locs ls hP hD hS (lv_sub hl [2, 3, 1, 0] rfl)
  have b89 : ∀ (k36 : Mem → Int32 → Int64 → Int32 → Option Mem) (hk36 : ∀ (u : Mem) (v1 : Int32) (v2 : Int64) (v4 : Int32) , k36 u v1 v2 v4 = some u' → BW p l e s m below meth c 5 111 [.ref (a 0), .int x1] D (AM a) none (wlM cc a u') 8 (wlM cc a u) 36 [(0, .ref (a 0)), (1, .int v1), (2, .long v2), (4, .int v4)] []) (u : Mem) (v1 : Int32) (v2 : Int64) (v4 : Int32) , F_X7_wantPrint_89 k36 u v1 v2 v4 = some u' → BW p l e s m below meth c 5 111 [.ref (a 0), .int x1] D (AM a) none (wlM cc a u') 8 (wlM cc a u) 89 [(0, .ref (a 0)), (1, .int v1), (2, .long v2), (4, .int v4)] [.ref (a 0)] := by
    intro k36 hk36 u v1 v2 v4 hF H locs ls hP hD hS hl
    unfold F_X7_wantPrint_89 at hF
    refine lv_iconst (v := 0) hx hb dX7_wantPrint_89 (by decide) ?_
    exact b90 _ hk36 _ _ _ _ _  hF H locs ls hP hD hS (lv_sub hl [0, 1, 2, 3] rfl)
  have b36 : ∀ (n : Nat) (u : Mem) (v1 : Int32) (v2 : Int64) (v4 : Int32) , F_X7_wantPrint_36  n u v1 v2 v4 = some u' → BW p l e s m below meth c 5 111 [.ref (a 0), .int x1] D (AM a) none (wlM cc a u') 8 (wlM cc a u) 36 [(0, .ref (a 0)), (1, .int v1), (2, .long v2), (4, .int v4)] [] := by
    intro n
    induction n with
    | zero => intro u v1 v2 v4 hF; cases hF
    | succ n ih =>
      intro u v1 v2 v4 hF H locs ls hP hD hS hl
      unfold F_X7_wantPrint_36 at hF
      refine lv_aload_n hx hb dX7_wantPrint_36 rfl (lv_at hl 0 rfl) ?_
      refine va_get_w S hK hP _ c_MO rfl igX7 15 (by decide) q894 rfl rfl dX7_wantPrint_37 ?_
      refine lv_if_eq (tgt := 119) hx hb dX7_wantPrint_40 (by decide) (fun c26 => ?_) (fun c26 => ?_)
      · have hF := ite_t hF c26
        exact b119 _ _ _  hF H locs ls hP hD hS (lv_sub hl [0, 1, 2] rfl)
      · have hF := ite_f hF c26
        refine lv_aload_n hx hb dX7_wantPrint_43 rfl (lv_at hl 0 rfl) ?_
        refine va_get_w S hK hP _ c_MO rfl igX7 10 (by decide) q889 rfl rfl dX7_wantPrint_44 ?_
        refine lv_iconst (v := 2) hx hb dX7_wantPrint_47 (by decide) ?_
        refine lv_icmp_ne (tgt := 119) hx hb dX7_wantPrint_48 (by decide) (fun c27 => ?_) (fun c27 => ?_)
        · have hF := ite_f hF c27
          exact b119 _ _ _  hF H locs ls hP hD hS (lv_sub hl [0, 1, 2] rfl)
        · have hF := ite_t hF c27
          refine lv_aload_n hx hb dX7_wantPrint_51 rfl (lv_at hl 0 rfl) ?_
          refine lv_iload hx hb dX7_wantPrint_52 (lv_at hl 3 rfl) ?_
          refine lv_bipush (v := 8) hx hb dX7_wantPrint_54 (by decide) ?_
          refine lv_icmp_ge (tgt := 89) hx hb dX7_wantPrint_56 (by decide) (fun c28 => ?_) (fun c28 => ?_)
          · have hF := ite_t hF c28
            exact b89 _ ih _ _ _ _  hF H locs ls hP hD hS (lv_sub hl [0, 1, 2, 3] rfl)
          · have hF := ite_f hF c28
            refine lv_aload_n hx hb dX7_wantPrint_59 rfl (lv_at hl 0 rfl) ?_
            refine va_get_w S hK hP _ c_MO rfl igX7 14 (by decide) q893 rfl rfl dX7_wantPrint_60 ?_
            refine lv_iconst (v := 0) hx hb dX7_wantPrint_63 (by decide) ?_
            refine lv_bipush (v := 39) hx hb dX7_wantPrint_64 (by decide) ?_
            obtain ⟨r30, u29, e31, hF⟩ := bdI_some hF
            refine MM.callSi (m_X7_in e31) k_X7_64 S emOK hEs hK ⟨by decide, by decide⟩ rfl rfl hl.1 (Nat.le_of_ble_eq_true rfl) dX7_wantPrint_66 ⟨Nat.le_refl _, Nat.le_refl _⟩ hP hD hS (fun H locs hP hD hS => ?_)
            refine lv_if_eq (tgt := 89) hx hb dX7_wantPrint_69 (by decide) (fun c32 => ?_) (fun c32 => ?_)
            · have hF := ite_t hF c32
              exact b89 _ ih _ _ _ _  hF H locs ls hP hD hS (lv_sub hl [0, 1, 2, 3] rfl)
            · have hF := ite_f hF c32
              refine lv_lload_n hx hb dX7_wantPrint_72 rfl (lv_at hl 2 rfl) ?_
              refine lv_aload_n hx hb dX7_wantPrint_73 rfl (lv_at hl 0 rfl) ?_
              refine va_get_w S hK hP _ c_MO rfl igX7 14 (by decide) q893 rfl rfl dX7_wantPrint_74 ?_
              refine lv_lshr hx hb dX7_wantPrint_77 rfl ?_
              refine lv_lconst (v := 1) hx hb dX7_wantPrint_78 (by decide) ?_
              refine lv_land hx hb dX7_wantPrint_79 ?_
              refine lv_lconst (v := 0) hx hb dX7_wantPrint_80 (by decide) ?_
              refine W.lcmp hx hb dX7_wantPrint_81 ?_
              refine lv_if_ne (tgt := 89) hx hb dX7_wantPrint_82 (by decide) (fun c33 => ?_) (fun c33 => ?_)
              · have hF := ite_f hF c33
                exact b89 _ ih _ _ _ _  hF H locs ls hP hD hS (lv_sub hl [0, 1, 2, 3] rfl)
              · have hF := ite_t hF c33
                refine lv_iconst (v := 1) hx hb dX7_wantPrint_85 (by decide) ?_
                refine lv_goto (tgt := 90) hx hb dX7_wantPrint_86 (by decide) ?_
                exact b90 _ ih _ _ _ _ _  hF H locs ls hP hD hS (lv_sub hl [0, 1, 2, 3] rfl)
  have b31 : ∀  (u : Mem) (v1 : Int32) , F_X7_wantPrint_31  u v1 = some u' → BW p l e s m below meth c 5 111 [.ref (a 0), .int x1] D (AM a) none (wlM cc a u') 8 (wlM cc a u) 31 [(0, .ref (a 0)), (1, .int v1)] [] := by
    intro  u v1 hF H locs ls hP hD hS hl
    unfold F_X7_wantPrint_31 at hF
    refine lv_lconst (v := 0) hx hb dX7_wantPrint_31 (by decide) ?_
    refine lv_lstore_n (lv' := [(2, .long _), (0, .ref _), (1, .int _)]) hx hb dX7_wantPrint_32 rfl hl (by decide) rfl (fun ls hl => ?_)
    refine lv_iconst (v := 0) hx hb dX7_wantPrint_33 (by decide) ?_
    refine lv_istore (lv' := [(4, .int _), (2, .long _), (0, .ref _), (1, .int _)]) hx hb dX7_wantPrint_34 hl (by decide) rfl (fun ls hl => ?_)
    exact b36 _ _ _ _ _  hF H locs ls hP hD hS (lv_sub hl [2, 3, 1, 0] rfl)
  have b17 : ∀  (u : Mem) (v1 : Int32) (y1 : Int32) , F_X7_wantPrint_17  u v1 y1 = some u' → BW p l e s m below meth c 5 111 [.ref (a 0), .int x1] D (AM a) none (wlM cc a u') 8 (wlM cc a u) 17 [(0, .ref (a 0)), (1, .int v1)] [.int y1, .ref (a 0)] := by
    intro  u v1 y1 hF H locs ls hP hD hS hl
    unfold F_X7_wantPrint_17 at hF
    obtain ⟨hz34, hF⟩ := gz_some hF
    refine va_put_w S igX7 tyX7 tyX7_ok nmX7 hK hP hD hS _ c_MO rfl 15 (by decide) q894 rfl rfl (ty := .boolean) (tyX7_ok 15 (by decide)) (nz_ok hz34) (fz_ok hz34) (Nat.le_of_ble_eq_true rfl) (z_MO (by decide)) dX7_wantPrint_17 (fun H locs hP hD hS => ?_)
    refine lv_aload_n hx hb dX7_wantPrint_20 rfl (lv_at hl 0 rfl) ?_
    refine va_get_w S hK hP _ c_MO rfl igX7 15 (by decide) q894 rfl rfl dX7_wantPrint_21 ?_
    refine lv_if_eq (tgt := 31) hx hb dX7_wantPrint_24 (by decide) (fun c35 => ?_) (fun c35 => ?_)
    · have hF := ite_t hF c35
      exact b31 _ _  hF H locs ls hP hD hS (lv_sub hl [0, 1] rfl)
    · have hF := ite_f hF c35
      refine lv_aload_n hx hb dX7_wantPrint_27 rfl (lv_at hl 0 rfl) ?_
      obtain ⟨u36, e38, hF⟩ := bdV_some hF
      refine MM.callVv (m_X7_advance e38) k_X7_247 S emOK hEs hK ⟨by decide, by decide⟩ (va_recv hK hP rfl c_MO) rfl rfl hl.1 (Nat.le_of_ble_eq_true rfl) dX7_wantPrint_28 ⟨Nat.le_refl _, Nat.le_refl _⟩ hP hD hS (fun H locs hP hD hS => ?_)
      exact b31 _ _  hF H locs ls hP hD hS (lv_sub hl [0, 1] rfl)
  unfold F_X7_wantPrint at hF
  have b_main : BW p l e s m below meth c 5 111 [.ref (a 0), .int x1] D (AM a) none (wlM cc a u') 8 (wlM cc a u) 0 [(0, .ref (a 0)), (1, .int x1)] [] := by
    intro H locs ls hP hD hS hl
    refine lv_aload_n hx hb dX7_wantPrint_0 rfl (lv_at hl 0 rfl) ?_
    refine lv_aload_n hx hb dX7_wantPrint_1 rfl (lv_at hl 0 rfl) ?_
    refine va_get_w S hK hP _ c_MO rfl igX7 0 (by decide) q879 rfl rfl dX7_wantPrint_2 ?_
    refine lv_iconst (v := 0) hx hb dX7_wantPrint_5 (by decide) ?_
    obtain ⟨hin39, hF⟩ := gd_some hF
    refine mIald S hK hP ⟨rfl, by decide⟩ rfl hin39 dX7_wantPrint_6 ?_
    refine lv_bipush (v := 12) hx hb dX7_wantPrint_7 (by decide) ?_
    refine lv_icmp_ge (tgt := 16) hx hb dX7_wantPrint_9 (by decide) (fun c40 => ?_) (fun c40 => ?_)
    · have hF := ite_t hF c40
      refine lv_iconst (v := 0) hx hb dX7_wantPrint_16 (by decide) ?_
      exact b17 _ _ _  hF H locs ls hP hD hS (lv_sub hl [0, 1] rfl)
    · have hF := ite_f hF c40
      refine lv_iconst (v := 1) hx hb dX7_wantPrint_12 (by decide) ?_
      refine lv_goto (tgt := 17) hx hb dX7_wantPrint_13 (by decide) ?_
      exact b17 _ _ _  hF H locs ls hP hD hS (lv_sub hl [0, 1] rfl)
  have hl := lv_entry ([.ref (a 0), .int x1]) (n := 8) (Nat.le_of_ble_eq_true rfl)
  rw [lg_entry_eq]
  generalize (lg_sl ([.ref (a 0), .int x1]) ++ List.replicate (8 - (lg_sl ([.ref (a 0), .int x1])).length) Slot.unset).toArray = ls at hl ⊢
  exact b_main _ _ _ hP hD hS hl

set_option maxRecDepth 100000 in
set_option maxHeartbeats 4000000 in
theorem m_X7_wantSlack   {u u' : Mem}  (hF : F_X7_wantSlack  u  = some u') : MR l D cc a yX7_wantSlack cX7_wantSlack 2 none 4 86 [.ref (a 0)] u none u' := by
  refine MM.ofW (by decide) (fun p e s m below meth c S hr hlocks hK hEs hP hD hS => ?_)
  have S : CallFix p m c cX7_wantSlack 2 s _ gtbl RX7 := S
  obtain ⟨hx, hb, hml, hown, hts⟩ := id S
  have b27 : ∀  (u : Mem)  , F_X7_wantSlack_27  u  = some u' → BW p l e s m below meth c 4 86 [.ref (a 0)] D (AM a) none (wlM cc a u') 2 (wlM cc a u) 27 [] [] := by
    intro  u  hF H locs ls hP hD hS hl
    unfold F_X7_wantSlack_27 at hF
    obtain rfl := sv_eq hF
    exact retV S hr hlocks hP hD hS dX7_wantSlack_27
  unfold F_X7_wantSlack at hF
  have b_main : BW p l e s m below meth c 4 86 [.ref (a 0)] D (AM a) none (wlM cc a u') 2 (wlM cc a u) 0 [(0, .ref (a 0))] [] := by
    intro H locs ls hP hD hS hl
    refine lv_aload_n hx hb dX7_wantSlack_0 rfl (lv_at hl 0 rfl) ?_
    obtain ⟨u1, e3, hF⟩ := bdV_some hF
    refine MM.callVv (m_X7_advance e3) k_X7_247 S emOK hEs hK ⟨by decide, by decide⟩ (va_recv hK hP rfl c_MO) rfl rfl hl.1 (Nat.le_of_ble_eq_true rfl) dX7_wantSlack_1 ⟨Nat.le_refl _, Nat.le_refl _⟩ hP hD hS (fun H locs hP hD hS => ?_)
    refine lv_aload_n hx hb dX7_wantSlack_4 rfl (lv_at hl 0 rfl) ?_
    refine lv_iconst (v := 0) hx hb dX7_wantSlack_5 (by decide) ?_
    refine lv_sipush (v := 999) hx hb dX7_wantSlack_6 (by decide) ?_
    obtain ⟨r5, u4, e6, hF⟩ := bdI_some hF
    refine MM.callVi (m_X7_wantNumber e6) k_X7_250 S emOK hEs hK ⟨by decide, by decide⟩ (va_recv hK hP rfl c_MO) rfl rfl hl.1 (Nat.le_of_ble_eq_true rfl) dX7_wantSlack_9 ⟨Nat.le_refl _, Nat.le_refl _⟩ hP hD hS (fun H locs hP hD hS => ?_)
    refine lv_istore_n (lv' := [(1, .int _), (0, .ref _)]) hx hb dX7_wantSlack_12 rfl hl (by decide) rfl (fun ls hl => ?_)
    refine lv_aload_n hx hb dX7_wantSlack_13 rfl (lv_at hl 1 rfl) ?_
    refine va_get_w S hK hP _ c_MO rfl igX7 15 (by decide) q894 rfl rfl dX7_wantSlack_14 ?_
    refine lv_if_eq (tgt := 27) hx hb dX7_wantSlack_17 (by decide) (fun c7 => ?_) (fun c7 => ?_)
    · have hF := ite_t hF c7
      exact b27 _  hF H locs ls hP hD hS (lv_sub hl [] rfl)
    · have hF := ite_f hF c7
      refine lv_aload_n hx hb dX7_wantSlack_20 rfl (lv_at hl 1 rfl) ?_
      refine va_get_w S hK hP _ c_MO rfl igX7 0 (by decide) q879 rfl rfl dX7_wantSlack_21 ?_
      refine lv_iconst (v := 1) hx hb dX7_wantSlack_24 (by decide) ?_
      refine lv_iload_n hx hb dX7_wantSlack_25 rfl (lv_at hl 0 rfl) ?_
      obtain ⟨hin8, hF⟩ := gd_some hF
      refine mIast S hK hP hD hS ⟨rfl, by decide⟩ rfl hin8 dX7_wantSlack_26 (fun H locs hP hD hS => ?_)
      exact b27 _  hF H locs ls hP hD hS (lv_sub hl [] rfl)
  have hl := lv_entry ([.ref (a 0)]) (n := 2) (Nat.le_of_ble_eq_true rfl)
  rw [lg_entry_eq]
  generalize (lg_sl ([.ref (a 0)]) ++ List.replicate (2 - (lg_sl ([.ref (a 0)])).length) Slot.unset).toArray = ls at hl ⊢
  exact b_main _ _ _ hP hD hS hl

set_option maxRecDepth 100000 in
set_option maxHeartbeats 4000000 in
theorem m_X7_wantLook   {u u' : Mem}  (hF : F_X7_wantLook  u  = some u') : MR l D cc a yX7_wantLook cX7_wantLook 2 none 4 86 [.ref (a 0)] u none u' := by
  refine MM.ofW (by decide) (fun p e s m below meth c S hr hlocks hK hEs hP hD hS => ?_)
  have S : CallFix p m c cX7_wantLook 2 s _ gtbl RX7 := S
  obtain ⟨hx, hb, hml, hown, hts⟩ := id S
  have b32 : ∀  (u : Mem)  , F_X7_wantLook_32  u  = some u' → BW p l e s m below meth c 4 86 [.ref (a 0)] D (AM a) none (wlM cc a u') 2 (wlM cc a u) 32 [] [] := by
    intro  u  hF H locs ls hP hD hS hl
    unfold F_X7_wantLook_32 at hF
    obtain rfl := sv_eq hF
    exact retV S hr hlocks hP hD hS dX7_wantLook_32
  unfold F_X7_wantLook at hF
  have b_main : BW p l e s m below meth c 4 86 [.ref (a 0)] D (AM a) none (wlM cc a u') 2 (wlM cc a u) 0 [(0, .ref (a 0))] [] := by
    intro H locs ls hP hD hS hl
    refine lv_aload_n hx hb dX7_wantLook_0 rfl (lv_at hl 0 rfl) ?_
    obtain ⟨u1, e3, hF⟩ := bdV_some hF
    refine MM.callVv (m_X7_advance e3) k_X7_247 S emOK hEs hK ⟨by decide, by decide⟩ (va_recv hK hP rfl c_MO) rfl rfl hl.1 (Nat.le_of_ble_eq_true rfl) dX7_wantLook_1 ⟨Nat.le_refl _, Nat.le_refl _⟩ hP hD hS (fun H locs hP hD hS => ?_)
    refine lv_aload_n hx hb dX7_wantLook_4 rfl (lv_at hl 0 rfl) ?_
    refine lv_iconst (v := 0) hx hb dX7_wantLook_5 (by decide) ?_
    refine lv_aload_n hx hb dX7_wantLook_6 rfl (lv_at hl 0 rfl) ?_
    refine va_get_w S hK hP _ c_MO rfl igX7 0 (by decide) q879 rfl rfl dX7_wantLook_7 ?_
    refine lv_iconst (v := 0) hx hb dX7_wantLook_10 (by decide) ?_
    obtain ⟨hin4, hF⟩ := gd_some hF
    refine mIald S hK hP ⟨rfl, by decide⟩ rfl hin4 dX7_wantLook_11 ?_
    refine lv_iconst (v := 1) hx hb dX7_wantLook_12 (by decide) ?_
    refine lv_isub hx hb dX7_wantLook_13 ?_
    obtain ⟨r6, u5, e7, hF⟩ := bdI_some hF
    refine MM.callVi (m_X7_wantNumber e7) k_X7_250 S emOK hEs hK ⟨by decide, by decide⟩ (va_recv hK hP rfl c_MO) rfl rfl hl.1 (Nat.le_of_ble_eq_true rfl) dX7_wantLook_14 ⟨Nat.le_refl _, Nat.le_refl _⟩ hP hD hS (fun H locs hP hD hS => ?_)
    refine lv_istore_n (lv' := [(1, .int _), (0, .ref _)]) hx hb dX7_wantLook_17 rfl hl (by decide) rfl (fun ls hl => ?_)
    refine lv_aload_n hx hb dX7_wantLook_18 rfl (lv_at hl 1 rfl) ?_
    refine va_get_w S hK hP _ c_MO rfl igX7 15 (by decide) q894 rfl rfl dX7_wantLook_19 ?_
    refine lv_if_eq (tgt := 32) hx hb dX7_wantLook_22 (by decide) (fun c8 => ?_) (fun c8 => ?_)
    · have hF := ite_t hF c8
      exact b32 _  hF H locs ls hP hD hS (lv_sub hl [] rfl)
    · have hF := ite_f hF c8
      refine lv_aload_n hx hb dX7_wantLook_25 rfl (lv_at hl 1 rfl) ?_
      refine lv_iload_n hx hb dX7_wantLook_26 rfl (lv_at hl 0 rfl) ?_
      refine lv_iconst (v := 3) hx hb dX7_wantLook_27 (by decide) ?_
      refine lv_iconst (v := 1) hx hb dX7_wantLook_28 (by decide) ?_
      obtain ⟨u9, e11, hF⟩ := bdV_some hF
      refine MM.callVv (m_X7_sets e11) k_X7_86 S emOK hEs hK ⟨by decide, by decide⟩ (va_recv hK hP rfl c_MO) rfl rfl hl.1 (Nat.le_of_ble_eq_true rfl) dX7_wantLook_29 ⟨Nat.le_refl _, Nat.le_refl _⟩ hP hD hS (fun H locs hP hD hS => ?_)
      exact b32 _  hF H locs ls hP hD hS (lv_sub hl [] rfl)
  have hl := lv_entry ([.ref (a 0)]) (n := 2) (Nat.le_of_ble_eq_true rfl)
  rw [lg_entry_eq]
  generalize (lg_sl ([.ref (a 0)]) ++ List.replicate (2 - (lg_sl ([.ref (a 0)])).length) Slot.unset).toArray = ls at hl ⊢
  exact b_main _ _ _ hP hD hS hl

set_option maxRecDepth 100000 in
set_option maxHeartbeats 4000000 in
theorem m_X7_wantItem   {u u' : Mem}  (hF : F_X7_wantItem  u  = some u') : MR l D cc a yX7_wantItem cX7_wantItem 1 none 6 138 [.ref (a 0)] u none u' := by
  refine MM.ofW (by decide) (fun p e s m below meth c S hr hlocks hK hEs hP hD hS => ?_)
  have S : CallFix p m c cX7_wantItem 1 s _ gtbl RX7 := S
  obtain ⟨hx, hb, hml, hown, hts⟩ := id S
  have b57 : ∀  (u : Mem)  , F_X7_wantItem_57  u  = some u' → BW p l e s m below meth c 6 138 [.ref (a 0)] D (AM a) none (wlM cc a u') 1 (wlM cc a u) 57 [] [] := by
    intro  u  hF H locs ls hP hD hS hl
    unfold F_X7_wantItem_57 at hF
    obtain rfl := sv_eq hF
    exact retV S hr hlocks hP hD hS dX7_wantItem_57
  unfold F_X7_wantItem at hF
  have b_main : BW p l e s m below meth c 6 138 [.ref (a 0)] D (AM a) none (wlM cc a u') 1 (wlM cc a u) 0 [(0, .ref (a 0))] [] := by
    intro H locs ls hP hD hS hl
    refine lv_aload_n hx hb dX7_wantItem_0 rfl (lv_at hl 0 rfl) ?_
    obtain ⟨r2, u1, e3, hF⟩ := bdI_some hF
    refine MM.callVi (m_X7_kindHere e3) k_X7_263 S emOK hEs hK ⟨by decide, by decide⟩ (va_recv hK hP rfl c_MO) rfl rfl hl.1 (Nat.le_of_ble_eq_true rfl) dX7_wantItem_1 ⟨Nat.le_refl _, Nat.le_refl _⟩ hP hD hS (fun H locs hP hD hS => ?_)
    refine lv_if_lt (tgt := 18) hx hb dX7_wantItem_4 (by decide) (fun c4 => ?_) (fun c4 => ?_)
    · have hF := ite_t hF c4
      refine lv_aload_n hx hb dX7_wantItem_18 rfl (lv_at hl 0 rfl) ?_
      refine lv_ldc2 hx hb hown (hts _ q1280) dX7_wantItem_19 ?_
      obtain ⟨r6, u5, e7, hF⟩ := bdI_some hF
      refine MM.callVi (m_X7_isWord e7) k_X7_229 S emOK hEs hK ⟨by decide, by decide⟩ (va_recv hK hP rfl c_MO) rfl rfl hl.1 (Nat.le_of_ble_eq_true rfl) dX7_wantItem_22 ⟨Nat.le_refl _, Nat.le_refl _⟩ hP hD hS (fun H locs hP hD hS => ?_)
      refine lv_if_eq (tgt := 35) hx hb dX7_wantItem_25 (by decide) (fun c8 => ?_) (fun c8 => ?_)
      · have hF := ite_t hF c8
        refine lv_aload_n hx hb dX7_wantItem_35 rfl (lv_at hl 0 rfl) ?_
        refine lv_ldc2 hx hb hown (hts _ q1285) dX7_wantItem_36 ?_
        obtain ⟨r10, u9, e11, hF⟩ := bdI_some hF
        refine MM.callVi (m_X7_isWord e11) k_X7_229 S emOK hEs hK ⟨by decide, by decide⟩ (va_recv hK hP rfl c_MO) rfl rfl hl.1 (Nat.le_of_ble_eq_true rfl) dX7_wantItem_39 ⟨Nat.le_refl _, Nat.le_refl _⟩ hP hD hS (fun H locs hP hD hS => ?_)
        refine lv_if_eq (tgt := 52) hx hb dX7_wantItem_42 (by decide) (fun c12 => ?_) (fun c12 => ?_)
        · have hF := ite_t hF c12
          refine lv_aload_n hx hb dX7_wantItem_52 rfl (lv_at hl 0 rfl) ?_
          refine lv_iconst (v := 0) hx hb dX7_wantItem_53 (by decide) ?_
          refine va_put_w S igX7 tyX7 tyX7_ok nmX7 hK hP hD hS _ c_MO rfl 15 (by decide) q894 rfl rfl (ty := .boolean) (tyX7_ok 15 (by decide)) (nz_ok (by decide)) (fz_ok (by decide)) (Nat.le_of_ble_eq_true rfl) (z_MO (by decide)) dX7_wantItem_54 (fun H locs hP hD hS => ?_)
          exact b57 _  hF H locs ls hP hD hS (lv_sub hl [] rfl)
        · have hF := ite_f hF c12
          refine lv_aload_n hx hb dX7_wantItem_45 rfl (lv_at hl 0 rfl) ?_
          obtain ⟨u13, e15, hF⟩ := bdV_some hF
          refine MM.callVv (m_X7_wantLook e15) k_X7_277 S emOK hEs hK ⟨by decide, by decide⟩ (va_recv hK hP rfl c_MO) rfl rfl hl.1 (Nat.le_of_ble_eq_true rfl) dX7_wantItem_46 ⟨Nat.le_refl _, Nat.le_refl _⟩ hP hD hS (fun H locs hP hD hS => ?_)
          refine lv_goto (tgt := 57) hx hb dX7_wantItem_49 (by decide) ?_
          exact b57 _  hF H locs ls hP hD hS (lv_sub hl [] rfl)
      · have hF := ite_f hF c8
        refine lv_aload_n hx hb dX7_wantItem_28 rfl (lv_at hl 0 rfl) ?_
        obtain ⟨u16, e18, hF⟩ := bdV_some hF
        refine MM.callVv (m_X7_wantSlack e18) k_X7_272 S emOK hEs hK ⟨by decide, by decide⟩ (va_recv hK hP rfl c_MO) rfl rfl hl.1 (Nat.le_of_ble_eq_true rfl) dX7_wantItem_29 ⟨Nat.le_refl _, Nat.le_refl _⟩ hP hD hS (fun H locs hP hD hS => ?_)
        refine lv_goto (tgt := 57) hx hb dX7_wantItem_32 (by decide) ?_
        exact b57 _  hF H locs ls hP hD hS (lv_sub hl [] rfl)
    · have hF := ite_f hF c4
      refine lv_aload_n hx hb dX7_wantItem_7 rfl (lv_at hl 0 rfl) ?_
      refine lv_aload_n hx hb dX7_wantItem_8 rfl (lv_at hl 0 rfl) ?_
      obtain ⟨r20, u19, e21, hF⟩ := bdI_some hF
      refine MM.callVi (m_X7_kindHere e21) k_X7_263 S emOK hEs hK ⟨by decide, by decide⟩ (va_recv hK hP rfl c_MO) rfl rfl hl.1 (Nat.le_of_ble_eq_true rfl) dX7_wantItem_9 ⟨Nat.le_refl _, Nat.le_refl _⟩ hP hD hS (fun H locs hP hD hS => ?_)
      obtain ⟨u22, e24, hF⟩ := bdV_some hF
      refine MM.callVv (m_X7_wantPrint e24) k_X7_267 S emOK hEs hK ⟨by decide, by decide⟩ (va_recv hK hP rfl c_MO) rfl rfl hl.1 (Nat.le_of_ble_eq_true rfl) dX7_wantItem_12 ⟨Nat.le_refl _, Nat.le_refl _⟩ hP hD hS (fun H locs hP hD hS => ?_)
      refine lv_goto (tgt := 57) hx hb dX7_wantItem_15 (by decide) ?_
      exact b57 _  hF H locs ls hP hD hS (lv_sub hl [] rfl)
  have hl := lv_entry ([.ref (a 0)]) (n := 1) (Nat.le_of_ble_eq_true rfl)
  rw [lg_entry_eq]
  generalize (lg_sl ([.ref (a 0)]) ++ List.replicate (1 - (lg_sl ([.ref (a 0)])).length) Slot.unset).toArray = ls at hl ⊢
  exact b_main _ _ _ hP hD hS hl

set_option maxRecDepth 100000 in
set_option maxHeartbeats 4000000 in
theorem m_X7_text   {u u' : Mem} {r : Int32}  (hF : F_X7_text  u  = some (r, u')) : MR l D cc a yX7_text cX7_text 3 (some .int) 7 158 [.ref (a 0)] u (some (.int r)) u' := by
  refine MM.ofW (by decide) (fun p e s m below meth c S hr hlocks hK hEs hP hD hS => ?_)
  have S : CallFix p m c cX7_text 3 s _ gtbl RX7 := S
  obtain ⟨hx, hb, hml, hown, hts⟩ := id S
  have b95 : ∀  (u : Mem) (v1 : Int32) (y1 : Int32) , F_X7_text_95  u v1 y1 = some (r, u') → BW p l e s m below meth c 7 158 [.ref (a 0)] D (AM a) (some (.int r)) (wlM cc a u') 3 (wlM cc a u) 95 [(0, .ref (a 0)), (1, .int v1)] [.int y1, .ref (a 0)] := by
    intro  u v1 y1 hF H locs ls hP hD hS hl
    unfold F_X7_text_95 at hF
    obtain ⟨hz1, hF⟩ := gz_some hF
    refine va_put_w S igX7 tyX7 tyX7_ok nmX7 hK hP hD hS _ c_MO rfl 15 (by decide) q894 rfl rfl (ty := .boolean) (tyX7_ok 15 (by decide)) (nz_ok hz1) (fz_ok hz1) (Nat.le_of_ble_eq_true rfl) (z_MO (by decide)) dX7_text_95 (fun H locs hP hD hS => ?_)
    refine lv_aload_n hx hb dX7_text_98 rfl (lv_at hl 0 rfl) ?_
    refine lv_iconst (v := 0) hx hb dX7_text_99 (by decide) ?_
    refine va_put_w S igX7 tyX7 tyX7_ok nmX7 hK hP hD hS _ c_MO rfl 9 (by decide) q888 rfl rfl (tyX7_ok 9 (by decide)) rfl rfl (Nat.le_of_ble_eq_true rfl) (z_MO (by decide)) dX7_text_100 (fun H locs hP hD hS => ?_)
    refine lv_aload_n hx hb dX7_text_103 rfl (lv_at hl 0 rfl) ?_
    refine va_get_w S hK hP _ c_MO rfl igX7 15 (by decide) q894 rfl rfl dX7_text_104 ?_
    refine lv_if_ne (tgt := 130) hx hb dX7_text_107 (by decide) (fun c2 => ?_) (fun c2 => ?_)
    · have hF := ite_f hF c2
      refine lv_iload_n hx hb dX7_text_130 rfl (lv_at hl 1 rfl) ?_
      obtain ⟨rfl, rfl⟩ := sp_eq hF
      exact retI S hr hlocks hP hD hS dX7_text_131
    · have hF := ite_t hF c2
      refine lv_aload_n hx hb dX7_text_110 rfl (lv_at hl 0 rfl) ?_
      refine lv_iconst (v := 0) hx hb dX7_text_111 (by decide) ?_
      refine lv_aload_n hx hb dX7_text_112 rfl (lv_at hl 0 rfl) ?_
      refine va_get_w S hK hP _ c_MO rfl igX7 21 (by decide) q900 rfl rfl dX7_text_113 ?_
      refine lv_aload_n hx hb dX7_text_116 rfl (lv_at hl 0 rfl) ?_
      refine va_get_w S hK hP _ c_MO rfl igX7 23 (by decide) q902 rfl rfl dX7_text_117 ?_
      obtain ⟨u3, e5, hF⟩ := bdV_some hF
      refine MM.callVv (m_X7_moveAll ⟨rfl, by decide⟩ ⟨rfl, by decide⟩ e5) k_X7_280 S emOK hEs hK ⟨by decide, by decide⟩ (va_recv hK hP rfl c_MO) rfl rfl hl.1 (Nat.le_of_ble_eq_true rfl) dX7_text_120 ⟨Nat.le_refl _, Nat.le_refl _⟩ hP hD hS (fun H locs hP hD hS => ?_)
      refine lv_iconst (v := -1) hx hb dX7_text_123 (by decide) ?_
      refine lv_aload_n hx hb dX7_text_124 rfl (lv_at hl 0 rfl) ?_
      refine va_get_w S hK hP _ c_MO rfl igX7 11 (by decide) q890 rfl rfl dX7_text_125 ?_
      refine lv_isub hx hb dX7_text_128 ?_
      obtain ⟨rfl, rfl⟩ := sp_eq hF
      exact retI S hr hlocks hP hD hS dX7_text_129
  have b94 : ∀  (u : Mem) (v1 : Int32) , F_X7_text_94  u v1 = some (r, u') → BW p l e s m below meth c 7 158 [.ref (a 0)] D (AM a) (some (.int r)) (wlM cc a u') 3 (wlM cc a u) 94 [(0, .ref (a 0)), (1, .int v1)] [.ref (a 0)] := by
    intro  u v1 hF H locs ls hP hD hS hl
    unfold F_X7_text_94 at hF
    refine lv_iconst (v := 0) hx hb dX7_text_94 (by decide) ?_
    exact b95 _ _ _  hF H locs ls hP hD hS (lv_sub hl [0, 1] rfl)
  have b71 : ∀ (k27 : Mem → Int32 → Int32 → Option (Int32 × Mem)) (hk27 : ∀ (u : Mem) (v1 : Int32) (v2 : Int32) , k27 u v1 v2 = some (r, u') → BW p l e s m below meth c 7 158 [.ref (a 0)] D (AM a) (some (.int r)) (wlM cc a u') 3 (wlM cc a u) 27 [(0, .ref (a 0)), (1, .int v1), (2, .int v2)] []) (u : Mem) (v1 : Int32) (y0 : Int32) , F_X7_text_71 k27 u v1 y0 = some (r, u') → BW p l e s m below meth c 7 158 [.ref (a 0)] D (AM a) (some (.int r)) (wlM cc a u') 3 (wlM cc a u) 71 [(0, .ref (a 0)), (1, .int v1)] [.int y0] := by
    intro k27 hk27 u v1 y0 hF H locs ls hP hD hS hl
    unfold F_X7_text_71 at hF
    refine lv_istore_n (lv' := [(2, .int _), (0, .ref _), (1, .int _)]) hx hb dX7_text_71 rfl hl (by decide) rfl (fun ls hl => ?_)
    refine lv_goto (tgt := 27) hx hb dX7_text_72 (by decide) ?_
    exact hk27 _ _ _  hF H locs ls hP hD hS (lv_sub hl [1, 2, 0] rfl)
  have b70 : ∀ (k27 : Mem → Int32 → Int32 → Option (Int32 × Mem)) (hk27 : ∀ (u : Mem) (v1 : Int32) (v2 : Int32) , k27 u v1 v2 = some (r, u') → BW p l e s m below meth c 7 158 [.ref (a 0)] D (AM a) (some (.int r)) (wlM cc a u') 3 (wlM cc a u) 27 [(0, .ref (a 0)), (1, .int v1), (2, .int v2)] []) (u : Mem) (v1 : Int32) , F_X7_text_70 k27 u v1 = some (r, u') → BW p l e s m below meth c 7 158 [.ref (a 0)] D (AM a) (some (.int r)) (wlM cc a u') 3 (wlM cc a u) 70 [(0, .ref (a 0)), (1, .int v1)] [] := by
    intro k27 hk27 u v1 hF H locs ls hP hD hS hl
    unfold F_X7_text_70 at hF
    refine lv_iconst (v := 0) hx hb dX7_text_70 (by decide) ?_
    exact b71 _ hk27 _ _ _  hF H locs ls hP hD hS (lv_sub hl [0, 1] rfl)
  have b27 : ∀ (n : Nat) (u : Mem) (v1 : Int32) (v2 : Int32) , F_X7_text_27  n u v1 v2 = some (r, u') → BW p l e s m below meth c 7 158 [.ref (a 0)] D (AM a) (some (.int r)) (wlM cc a u') 3 (wlM cc a u) 27 [(0, .ref (a 0)), (1, .int v1), (2, .int v2)] [] := by
    intro n
    induction n with
    | zero => intro u v1 v2 hF; cases hF
    | succ n ih =>
      intro u v1 v2 hF H locs ls hP hD hS hl
      unfold F_X7_text_27 at hF
      refine lv_iload_n hx hb dX7_text_27 rfl (lv_at hl 2 rfl) ?_
      refine lv_if_eq (tgt := 75) hx hb dX7_text_28 (by decide) (fun c6 => ?_) (fun c6 => ?_)
      · have hF := ite_t hF c6
        refine lv_aload_n hx hb dX7_text_75 rfl (lv_at hl 0 rfl) ?_
        refine lv_aload_n hx hb dX7_text_76 rfl (lv_at hl 0 rfl) ?_
        refine va_get_w S hK hP _ c_MO rfl igX7 15 (by decide) q894 rfl rfl dX7_text_77 ?_
        refine lv_if_eq (tgt := 94) hx hb dX7_text_80 (by decide) (fun c7 => ?_) (fun c7 => ?_)
        · have hF := ite_t hF c7
          exact b94 _ _  hF H locs ls hP hD hS (lv_sub hl [0, 1] rfl)
        · have hF := ite_f hF c7
          refine lv_aload_n hx hb dX7_text_83 rfl (lv_at hl 0 rfl) ?_
          refine va_get_w S hK hP _ c_MO rfl igX7 10 (by decide) q889 rfl rfl dX7_text_84 ?_
          refine lv_if_ne (tgt := 94) hx hb dX7_text_87 (by decide) (fun c8 => ?_) (fun c8 => ?_)
          · have hF := ite_f hF c8
            exact b94 _ _  hF H locs ls hP hD hS (lv_sub hl [0, 1] rfl)
          · have hF := ite_t hF c8
            refine lv_iconst (v := 1) hx hb dX7_text_90 (by decide) ?_
            refine lv_goto (tgt := 95) hx hb dX7_text_91 (by decide) ?_
            exact b95 _ _ _  hF H locs ls hP hD hS (lv_sub hl [0, 1] rfl)
      · have hF := ite_f hF c6
        refine lv_aload_n hx hb dX7_text_31 rfl (lv_at hl 0 rfl) ?_
        obtain ⟨u9, e11, hF⟩ := bdV_some hF
        refine MM.callVv (m_X7_advance e11) k_X7_247 S emOK hEs hK ⟨by decide, by decide⟩ (va_recv hK hP rfl c_MO) rfl rfl hl.1 (Nat.le_of_ble_eq_true rfl) dX7_text_32 ⟨Nat.le_refl _, Nat.le_refl _⟩ hP hD hS (fun H locs hP hD hS => ?_)
        refine lv_aload_n hx hb dX7_text_35 rfl (lv_at hl 0 rfl) ?_
        obtain ⟨u12, e14, hF⟩ := bdV_some hF
        refine MM.callVv (m_X7_wantItem e14) k_X7_284 S emOK hEs hK ⟨by decide, by decide⟩ (va_recv hK hP rfl c_MO) rfl rfl hl.1 (Nat.le_of_ble_eq_true rfl) dX7_text_36 ⟨Nat.le_refl _, Nat.le_refl _⟩ hP hD hS (fun H locs hP hD hS => ?_)
        refine lv_inc1 (k := 1) (lv' := [(1, .int _), (0, .ref _), (2, .int _)]) hx hb dX7_text_39 hl rfl (by decide) rfl (fun ls hl => ?_)
        refine lv_aload_n hx hb dX7_text_42 rfl (lv_at hl 1 rfl) ?_
        refine va_get_w S hK hP _ c_MO rfl igX7 15 (by decide) q894 rfl rfl dX7_text_43 ?_
        refine lv_if_eq (tgt := 70) hx hb dX7_text_46 (by decide) (fun c15 => ?_) (fun c15 => ?_)
        · have hF := ite_t hF c15
          exact b70 _ ih _ _  hF H locs ls hP hD hS (lv_sub hl [1, 0] rfl)
        · have hF := ite_f hF c15
          refine lv_aload_n hx hb dX7_text_49 rfl (lv_at hl 1 rfl) ?_
          refine va_get_w S hK hP _ c_MO rfl igX7 10 (by decide) q889 rfl rfl dX7_text_50 ?_
          refine lv_iconst (v := 3) hx hb dX7_text_53 (by decide) ?_
          refine lv_icmp_ne (tgt := 70) hx hb dX7_text_54 (by decide) (fun c16 => ?_) (fun c16 => ?_)
          · have hF := ite_f hF c16
            exact b70 _ ih _ _  hF H locs ls hP hD hS (lv_sub hl [1, 0] rfl)
          · have hF := ite_t hF c16
            refine lv_aload_n hx hb dX7_text_57 rfl (lv_at hl 1 rfl) ?_
            refine va_get_w S hK hP _ c_MO rfl igX7 14 (by decide) q893 rfl rfl dX7_text_58 ?_
            refine lv_bipush (v := 59) hx hb dX7_text_61 (by decide) ?_
            refine lv_icmp_ne (tgt := 70) hx hb dX7_text_63 (by decide) (fun c17 => ?_) (fun c17 => ?_)
            · have hF := ite_f hF c17
              exact b70 _ ih _ _  hF H locs ls hP hD hS (lv_sub hl [1, 0] rfl)
            · have hF := ite_t hF c17
              refine lv_iconst (v := 1) hx hb dX7_text_66 (by decide) ?_
              refine lv_goto (tgt := 71) hx hb dX7_text_67 (by decide) ?_
              exact b71 _ ih _ _ _  hF H locs ls hP hD hS (lv_sub hl [1, 0] rfl)
  unfold F_X7_text at hF
  have b_main : BW p l e s m below meth c 7 158 [.ref (a 0)] D (AM a) (some (.int r)) (wlM cc a u') 3 (wlM cc a u) 0 [(0, .ref (a 0))] [] := by
    intro H locs ls hP hD hS hl
    refine lv_aload_n hx hb dX7_text_0 rfl (lv_at hl 0 rfl) ?_
    refine lv_iconst (v := 1) hx hb dX7_text_1 (by decide) ?_
    refine lv_aload_n hx hb dX7_text_2 rfl (lv_at hl 0 rfl) ?_
    refine va_get_w S hK hP _ c_MO rfl igX7 21 (by decide) q900 rfl rfl dX7_text_3 ?_
    refine lv_aload_n hx hb dX7_text_6 rfl (lv_at hl 0 rfl) ?_
    refine va_get_w S hK hP _ c_MO rfl igX7 23 (by decide) q902 rfl rfl dX7_text_7 ?_
    obtain ⟨u18, e20, hF⟩ := bdV_some hF
    refine MM.callVv (m_X7_moveAll ⟨rfl, by decide⟩ ⟨rfl, by decide⟩ e20) k_X7_280 S emOK hEs hK ⟨by decide, by decide⟩ (va_recv hK hP rfl c_MO) rfl rfl hl.1 (Nat.le_of_ble_eq_true rfl) dX7_text_10 ⟨Nat.le_refl _, Nat.le_refl _⟩ hP hD hS (fun H locs hP hD hS => ?_)
    refine lv_aload_n hx hb dX7_text_13 rfl (lv_at hl 0 rfl) ?_
    refine lv_iconst (v := 0) hx hb dX7_text_14 (by decide) ?_
    refine va_put_w S igX7 tyX7 tyX7_ok nmX7 hK hP hD hS _ c_MO rfl 12 (by decide) q891 rfl rfl (tyX7_ok 12 (by decide)) rfl rfl (Nat.le_of_ble_eq_true rfl) (z_MO (by decide)) dX7_text_15 (fun H locs hP hD hS => ?_)
    refine lv_aload_n hx hb dX7_text_18 rfl (lv_at hl 0 rfl) ?_
    refine lv_iconst (v := 1) hx hb dX7_text_19 (by decide) ?_
    refine va_put_w S igX7 tyX7 tyX7_ok nmX7 hK hP hD hS _ c_MO rfl 15 (by decide) q894 rfl rfl (ty := .boolean) (tyX7_ok 15 (by decide)) (nz_ok (by decide)) (fz_ok (by decide)) (Nat.le_of_ble_eq_true rfl) (z_MO (by decide)) dX7_text_20 (fun H locs hP hD hS => ?_)
    refine lv_iconst (v := 0) hx hb dX7_text_23 (by decide) ?_
    refine lv_istore_n (lv' := [(1, .int _), (0, .ref _)]) hx hb dX7_text_24 rfl hl (by decide) rfl (fun ls hl => ?_)
    refine lv_iconst (v := 1) hx hb dX7_text_25 (by decide) ?_
    refine lv_istore_n (lv' := [(2, .int _), (1, .int _), (0, .ref _)]) hx hb dX7_text_26 rfl hl (by decide) rfl (fun ls hl => ?_)
    exact b27 _ _ _ _  hF H locs ls hP hD hS (lv_sub hl [2, 1, 0] rfl)
  have hl := lv_entry ([.ref (a 0)]) (n := 3) (Nat.le_of_ble_eq_true rfl)
  rw [lg_entry_eq]
  generalize (lg_sl ([.ref (a 0)]) ++ List.replicate (3 - (lg_sl ([.ref (a 0)])).length) Slot.unset).toArray = ls at hl ⊢
  exact b_main _ _ _ hP hD hS hl

set_option maxRecDepth 100000 in
set_option maxHeartbeats 4000000 in
theorem m_X7_isSheet  {x0 : Int32} {u u' : Mem} {r : Int32}  (hF : F_X7_isSheet  u x0 = some (r, u')) : MR l D cc a yX7_isSheet cX7_isSheet 1 (some .boolean) 1 22 [.int x0] u (some (.int r)) u' := by
  refine MM.ofW (by decide) (fun p e s m below meth c S hr hlocks hK hEs hP hD hS => ?_)
  have S : CallFix p m c cX7_isSheet 1 s _ gtbl RX7 := S
  obtain ⟨hx, hb, hml, hown, hts⟩ := id S
  unfold F_X7_isSheet at hF
  have b_main : BW p l e s m below meth c 1 22 [.int x0] D (AM a) (some (.int r)) (wlM cc a u') 1 (wlM cc a u) 0 [(0, .int x0)] [] := by
    intro H locs ls hP hD hS hl
    refine lv_iload_n hx hb dX7_isSheet_0 rfl (lv_at hl 0 rfl) ?_
    refine lv_iconst (v := 0) hx hb dX7_isSheet_1 (by decide) ?_
    refine lv_iconst (v := 3) hx hb dX7_isSheet_2 (by decide) ?_
    obtain ⟨r2, u1, e3, hF⟩ := bdI_some hF
    refine MM.callSi (m_X7_in e3) k_X7_64 S emOK hEs hK ⟨by decide, by decide⟩ rfl rfl hl.1 (Nat.le_of_ble_eq_true rfl) dX7_isSheet_3 ⟨Nat.le_refl _, Nat.le_refl _⟩ hP hD hS (fun H locs hP hD hS => ?_)
    obtain ⟨hz4, hF⟩ := gz_some hF
    obtain ⟨rfl, rfl⟩ := sp_eq hF
    exact retZ S hr hlocks hP hD hS hz4 dX7_isSheet_6
  have hl := lv_entry ([.int x0]) (n := 1) (Nat.le_of_ble_eq_true rfl)
  rw [lg_entry_eq]
  generalize (lg_sl ([.int x0]) ++ List.replicate (1 - (lg_sl ([.int x0])).length) Slot.unset).toArray = ls at hl ⊢
  exact b_main _ _ _ hP hD hS hl

set_option maxRecDepth 100000 in
set_option maxHeartbeats 4000000 in
theorem m_X7_sheet  {x1 : Int32} {x2 : Int32} {x3 : Int32} {u u' : Mem} {r : Int32}  (hF : F_X7_sheet  u x1 x2 x3 = some (r, u')) : MR l D cc a yX7_sheet cX7_sheet 5 (some .int) 2 42 [.ref (a 0), .int x1, .int x2, .int x3] u (some (.int r)) u' := by
  refine MM.ofW (by decide) (fun p e s m below meth c S hr hlocks hK hEs hP hD hS => ?_)
  have S : CallFix p m c cX7_sheet 5 s _ gtbl RX7 := S
  obtain ⟨hx, hb, hml, hown, hts⟩ := id S
  have b29 : ∀  (u : Mem)  , F_X7_sheet_29  u  = some (r, u') → BW p l e s m below meth c 2 42 [.ref (a 0), .int x1, .int x2, .int x3] D (AM a) (some (.int r)) (wlM cc a u') 5 (wlM cc a u) 29 [(0, .ref (a 0))] [] := by
    intro  u  hF H locs ls hP hD hS hl
    unfold F_X7_sheet_29 at hF
    refine lv_aload_n hx hb dX7_sheet_29 rfl (lv_at hl 0 rfl) ?_
    refine lv_ldc hx hb hown (hts _ q966) dX7_sheet_30 ?_
    obtain ⟨r2, u1, e3, hF⟩ := bdI_some hF
    refine MM.callVi (m_X7_finds e3) k_X7_94 S emOK hEs hK ⟨by decide, by decide⟩ (va_recv hK hP rfl c_MO) rfl rfl hl.1 (Nat.le_of_ble_eq_true rfl) dX7_sheet_32 ⟨Nat.le_refl _, Nat.le_refl _⟩ hP hD hS (fun H locs hP hD hS => ?_)
    obtain ⟨rfl, rfl⟩ := sp_eq hF
    exact retI S hr hlocks hP hD hS dX7_sheet_35
  have b85 : ∀ (n : Nat) (u : Mem) (v1 : Int32) (v4 : Int32) , F_X7_sheet_85  n u v1 v4 = some (r, u') → BW p l e s m below meth c 2 42 [.ref (a 0), .int x1, .int x2, .int x3] D (AM a) (some (.int r)) (wlM cc a u') 5 (wlM cc a u) 85 [(0, .ref (a 0)), (1, .int v1), (4, .int v4)] [] := by
    intro n
    induction n with
    | zero => intro u v1 v4 hF; cases hF
    | succ n ih =>
      intro u v1 v4 hF H locs ls hP hD hS hl
      unfold F_X7_sheet_85 at hF
      refine lv_iload hx hb dX7_sheet_85 (lv_at hl 2 rfl) ?_
      refine lv_bipush (v := 40) hx hb dX7_sheet_87 (by decide) ?_
      refine lv_icmp_ge (tgt := 111) hx hb dX7_sheet_89 (by decide) (fun c4 => ?_) (fun c4 => ?_)
      · have hF := ite_t hF c4
        refine lv_aload_n hx hb dX7_sheet_111 rfl (lv_at hl 0 rfl) ?_
        refine va_get_w S hK hP _ c_MO rfl igX7 17 (by decide) q896 rfl rfl dX7_sheet_112 ?_
        refine lv_iload_n hx hb dX7_sheet_115 rfl (lv_at hl 1 rfl) ?_
        obtain ⟨hin5, hF⟩ := gd_some hF
        refine mIald S hK hP ⟨rfl, by decide⟩ rfl hin5 dX7_sheet_116 ?_
        obtain ⟨rfl, rfl⟩ := sp_eq hF
        exact retI S hr hlocks hP hD hS dX7_sheet_117
      · have hF := ite_f hF c4
        refine lv_aload_n hx hb dX7_sheet_92 rfl (lv_at hl 0 rfl) ?_
        refine va_get_w S hK hP _ c_MO rfl igX7 18 (by decide) q897 rfl rfl dX7_sheet_93 ?_
        refine lv_bipush (v := 40) hx hb dX7_sheet_96 (by decide) ?_
        refine lv_iload_n hx hb dX7_sheet_98 rfl (lv_at hl 1 rfl) ?_
        refine lv_imul hx hb dX7_sheet_99 ?_
        refine lv_iload hx hb dX7_sheet_100 (lv_at hl 2 rfl) ?_
        refine lv_iadd hx hb dX7_sheet_102 ?_
        refine lv_lconst (v := 0) hx hb dX7_sheet_103 (by decide) ?_
        obtain ⟨hin6, hF⟩ := gd_some hF
        refine mLast S hK hP hD hS ⟨rfl, by decide⟩ rfl hin6 dX7_sheet_104 (fun H locs hP hD hS => ?_)
        refine lv_inc1 (k := 2) (lv' := [(4, .int _), (0, .ref _), (1, .int _)]) hx hb dX7_sheet_105 hl rfl (by decide) rfl (fun ls hl => ?_)
        refine lv_goto (tgt := 85) hx hb dX7_sheet_108 (by decide) ?_
        exact ih _ _ _  hF H locs ls hP hD hS (lv_sub hl [1, 2, 0] rfl)
  have b81 : ∀  (u : Mem) (v1 : Int32) (y1 : Int32) (y2 : Int32) , F_X7_sheet_81  u v1 y1 y2 = some (r, u') → BW p l e s m below meth c 2 42 [.ref (a 0), .int x1, .int x2, .int x3] D (AM a) (some (.int r)) (wlM cc a u') 5 (wlM cc a u) 81 [(0, .ref (a 0)), (1, .int v1)] [.int y2, .int y1, .ref (a 11)] := by
    intro  u v1 y1 y2 hF H locs ls hP hD hS hl
    unfold F_X7_sheet_81 at hF
    obtain ⟨hin7, hF⟩ := gd_some hF
    refine mIast S hK hP hD hS ⟨rfl, by decide⟩ rfl hin7 dX7_sheet_81 (fun H locs hP hD hS => ?_)
    refine lv_iconst (v := 0) hx hb dX7_sheet_82 (by decide) ?_
    refine lv_istore (lv' := [(4, .int _), (0, .ref _), (1, .int _)]) hx hb dX7_sheet_83 hl (by decide) rfl (fun ls hl => ?_)
    exact b85 _ _ _ _  hF H locs ls hP hD hS (lv_sub hl [1, 2, 0] rfl)
  have b36 : ∀  (u : Mem) (v1 : Int32) (v2 : Int32) (v3 : Int32) , F_X7_sheet_36  u v1 v2 v3 = some (r, u') → BW p l e s m below meth c 2 42 [.ref (a 0), .int x1, .int x2, .int x3] D (AM a) (some (.int r)) (wlM cc a u') 5 (wlM cc a u) 36 [(0, .ref (a 0)), (1, .int v1), (2, .int v2), (3, .int v3)] [] := by
    intro  u v1 v2 v3 hF H locs ls hP hD hS hl
    unfold F_X7_sheet_36 at hF
    refine lv_iload_n hx hb dX7_sheet_36 rfl (lv_at hl 3 rfl) ?_
    refine lv_if_ge (tgt := 47) hx hb dX7_sheet_37 (by decide) (fun c8 => ?_) (fun c8 => ?_)
    · have hF := ite_t hF c8
      refine lv_iload_n hx hb dX7_sheet_47 rfl (lv_at hl 3 rfl) ?_
      refine lv_bipush (v := 40) hx hb dX7_sheet_48 (by decide) ?_
      refine lv_icmp_le (tgt := 60) hx hb dX7_sheet_50 (by decide) (fun c9 => ?_) (fun c9 => ?_)
      · have hF := ite_t hF c9
        refine lv_aload_n hx hb dX7_sheet_60 rfl (lv_at hl 0 rfl) ?_
        refine va_get_w S hK hP _ c_MO rfl igX7 16 (by decide) q895 rfl rfl dX7_sheet_61 ?_
        refine lv_iload_n hx hb dX7_sheet_64 rfl (lv_at hl 1 rfl) ?_
        refine lv_iload_n hx hb dX7_sheet_65 rfl (lv_at hl 2 rfl) ?_
        obtain ⟨hin10, hF⟩ := gd_some hF
        refine mIast S hK hP hD hS ⟨rfl, by decide⟩ rfl hin10 dX7_sheet_66 (fun H locs hP hD hS => ?_)
        refine lv_aload_n hx hb dX7_sheet_67 rfl (lv_at hl 0 rfl) ?_
        refine va_get_w S hK hP _ c_MO rfl igX7 17 (by decide) q896 rfl rfl dX7_sheet_68 ?_
        refine lv_iload_n hx hb dX7_sheet_71 rfl (lv_at hl 1 rfl) ?_
        refine lv_iload_n hx hb dX7_sheet_72 rfl (lv_at hl 2 rfl) ?_
        refine lv_if_ne (tgt := 80) hx hb dX7_sheet_73 (by decide) (fun c11 => ?_) (fun c11 => ?_)
        · have hF := ite_f hF c11
          refine lv_iload_n hx hb dX7_sheet_80 rfl (lv_at hl 3 rfl) ?_
          exact b81 _ _ _ _  hF H locs ls hP hD hS (lv_sub hl [0, 1] rfl)
        · have hF := ite_t hF c11
          refine lv_iconst (v := 0) hx hb dX7_sheet_76 (by decide) ?_
          refine lv_goto (tgt := 81) hx hb dX7_sheet_77 (by decide) ?_
          exact b81 _ _ _ _  hF H locs ls hP hD hS (lv_sub hl [0, 1] rfl)
      · have hF := ite_f hF c9
        refine lv_aload_n hx hb dX7_sheet_53 rfl (lv_at hl 0 rfl) ?_
        refine lv_ldc hx hb hown (hts _ q966) dX7_sheet_54 ?_
        obtain ⟨r13, u12, e14, hF⟩ := bdI_some hF
        refine MM.callVi (m_X7_finds e14) k_X7_94 S emOK hEs hK ⟨by decide, by decide⟩ (va_recv hK hP rfl c_MO) rfl rfl hl.1 (Nat.le_of_ble_eq_true rfl) dX7_sheet_56 ⟨Nat.le_refl _, Nat.le_refl _⟩ hP hD hS (fun H locs hP hD hS => ?_)
        obtain ⟨rfl, rfl⟩ := sp_eq hF
        exact retI S hr hlocks hP hD hS dX7_sheet_59
    · have hF := ite_f hF c8
      refine lv_aload_n hx hb dX7_sheet_40 rfl (lv_at hl 0 rfl) ?_
      refine lv_ldc hx hb hown (hts _ q1150) dX7_sheet_41 ?_
      obtain ⟨r16, u15, e17, hF⟩ := bdI_some hF
      refine MM.callVi (m_X7_finds e17) k_X7_94 S emOK hEs hK ⟨by decide, by decide⟩ (va_recv hK hP rfl c_MO) rfl rfl hl.1 (Nat.le_of_ble_eq_true rfl) dX7_sheet_43 ⟨Nat.le_refl _, Nat.le_refl _⟩ hP hD hS (fun H locs hP hD hS => ?_)
      obtain ⟨rfl, rfl⟩ := sp_eq hF
      exact retI S hr hlocks hP hD hS dX7_sheet_46
  unfold F_X7_sheet at hF
  have b_main : BW p l e s m below meth c 2 42 [.ref (a 0), .int x1, .int x2, .int x3] D (AM a) (some (.int r)) (wlM cc a u') 5 (wlM cc a u) 0 [(0, .ref (a 0)), (1, .int x1), (2, .int x2), (3, .int x3)] [] := by
    intro H locs ls hP hD hS hl
    refine lv_iload_n hx hb dX7_sheet_0 rfl (lv_at hl 1 rfl) ?_
    obtain ⟨r19, u18, e20, hF⟩ := bdI_some hF
    refine MM.callSi (m_X7_isSheet e20) k_X7_287 S emOK hEs hK ⟨by decide, by decide⟩ rfl rfl hl.1 (Nat.le_of_ble_eq_true rfl) dX7_sheet_1 ⟨Nat.le_refl _, Nat.le_refl _⟩ hP hD hS (fun H locs hP hD hS => ?_)
    refine lv_if_eq (tgt := 29) hx hb dX7_sheet_4 (by decide) (fun c21 => ?_) (fun c21 => ?_)
    · have hF := ite_t hF c21
      exact b29 _  hF H locs ls hP hD hS (lv_sub hl [0] rfl)
    · have hF := ite_f hF c21
      refine lv_iload_n hx hb dX7_sheet_7 rfl (lv_at hl 2 rfl) ?_
      refine lv_if_eq (tgt := 36) hx hb dX7_sheet_8 (by decide) (fun c22 => ?_) (fun c22 => ?_)
      · have hF := ite_t hF c22
        exact b36 _ _ _ _  hF H locs ls hP hD hS (lv_sub hl [0, 1, 2, 3] rfl)
      · have hF := ite_f hF c22
        refine lv_iload_n hx hb dX7_sheet_11 rfl (lv_at hl 2 rfl) ?_
        refine lv_bipush (v := 8) hx hb dX7_sheet_12 (by decide) ?_
        refine lv_icmp_eq (tgt := 36) hx hb dX7_sheet_14 (by decide) (fun c23 => ?_) (fun c23 => ?_)
        · have hF := ite_t hF c23
          exact b36 _ _ _ _  hF H locs ls hP hD hS (lv_sub hl [0, 1, 2, 3] rfl)
        · have hF := ite_f hF c23
          refine lv_iload_n hx hb dX7_sheet_17 rfl (lv_at hl 2 rfl) ?_
          refine lv_bipush (v := 16) hx hb dX7_sheet_18 (by decide) ?_
          refine lv_icmp_eq (tgt := 36) hx hb dX7_sheet_20 (by decide) (fun c24 => ?_) (fun c24 => ?_)
          · have hF := ite_t hF c24
            exact b36 _ _ _ _  hF H locs ls hP hD hS (lv_sub hl [0, 1, 2, 3] rfl)
          · have hF := ite_f hF c24
            refine lv_iload_n hx hb dX7_sheet_23 rfl (lv_at hl 2 rfl) ?_
            refine lv_bipush (v := 64) hx hb dX7_sheet_24 (by decide) ?_
            refine lv_icmp_eq (tgt := 36) hx hb dX7_sheet_26 (by decide) (fun c25 => ?_) (fun c25 => ?_)
            · have hF := ite_t hF c25
              exact b36 _ _ _ _  hF H locs ls hP hD hS (lv_sub hl [0, 1, 2, 3] rfl)
            · have hF := ite_f hF c25
              exact b29 _  hF H locs ls hP hD hS (lv_sub hl [0] rfl)
  have hl := lv_entry ([.ref (a 0), .int x1, .int x2, .int x3]) (n := 5) (Nat.le_of_ble_eq_true rfl)
  rw [lg_entry_eq]
  generalize (lg_sl ([.ref (a 0), .int x1, .int x2, .int x3]) ++ List.replicate (5 - (lg_sl ([.ref (a 0), .int x1, .int x2, .int x3])).length) Slot.unset).toArray = ls at hl ⊢
  exact b_main _ _ _ hP hD hS hl

set_option maxRecDepth 100000 in
set_option maxHeartbeats 4000000 in
theorem m_X7_narrow  {x0 : Int32} {x1 : Int64} {u u' : Mem} {r : Int64}  (hF : F_X7_narrow  u x0 x1 = some (r, u')) : MR l D cc a yX7_narrow cX7_narrow 3 (some .long) 0 0 [.int x0, .long x1] u (some (.long r)) u' := by
  refine MM.ofW (by decide) (fun p e s m below meth c S hr hlocks hK hEs hP hD hS => ?_)
  have S : CallFix p m c cX7_narrow 3 s _ gtbl RX7 := S
  obtain ⟨hx, hb, hml, hown, hts⟩ := id S
  have b33 : ∀  (u : Mem) (y0 : Int64) , F_X7_narrow_33  u y0 = some (r, u') → BW p l e s m below meth c 0 0 [.int x0, .long x1] D (AM a) (some (.long r)) (wlM cc a u') 3 (wlM cc a u) 33 [] [.long y0] := by
    intro  u y0 hF H locs ls hP hD hS hl
    unfold F_X7_narrow_33 at hF
    obtain ⟨rfl, rfl⟩ := sp_eq hF
    exact retL S hr hlocks hP hD hS dX7_narrow_33
  unfold F_X7_narrow at hF
  have b_main : BW p l e s m below meth c 0 0 [.int x0, .long x1] D (AM a) (some (.long r)) (wlM cc a u') 3 (wlM cc a u) 0 [(0, .int x0), (1, .long x1)] [] := by
    intro H locs ls hP hD hS hl
    refine lv_iload_n hx hb dX7_narrow_0 rfl (lv_at hl 0 rfl) ?_
    refine lv_bipush (v := 8) hx hb dX7_narrow_1 (by decide) ?_
    refine lv_icmp_ne (tgt := 16) hx hb dX7_narrow_3 (by decide) (fun c1 => ?_) (fun c1 => ?_)
    · have hF := ite_f hF c1
      refine lv_iload_n hx hb dX7_narrow_16 rfl (lv_at hl 0 rfl) ?_
      refine lv_bipush (v := 16) hx hb dX7_narrow_17 (by decide) ?_
      refine lv_icmp_ne (tgt := 32) hx hb dX7_narrow_19 (by decide) (fun c2 => ?_) (fun c2 => ?_)
      · have hF := ite_f hF c2
        refine lv_lload_n hx hb dX7_narrow_32 rfl (lv_at hl 1 rfl) ?_
        exact b33 _ _  hF H locs ls hP hD hS (lv_sub hl [] rfl)
      · have hF := ite_t hF c2
        refine lv_lload_n hx hb dX7_narrow_22 rfl (lv_at hl 1 rfl) ?_
        refine lv_bipush (v := 48) hx hb dX7_narrow_23 (by decide) ?_
        refine lv_lshl hx hb dX7_narrow_25 rfl ?_
        refine lv_bipush (v := 48) hx hb dX7_narrow_26 (by decide) ?_
        refine lv_lshr hx hb dX7_narrow_28 rfl ?_
        refine lv_goto (tgt := 33) hx hb dX7_narrow_29 (by decide) ?_
        exact b33 _ _  hF H locs ls hP hD hS (lv_sub hl [] rfl)
    · have hF := ite_t hF c1
      refine lv_lload_n hx hb dX7_narrow_6 rfl (lv_at hl 1 rfl) ?_
      refine lv_bipush (v := 56) hx hb dX7_narrow_7 (by decide) ?_
      refine lv_lshl hx hb dX7_narrow_9 rfl ?_
      refine lv_bipush (v := 56) hx hb dX7_narrow_10 (by decide) ?_
      refine lv_lshr hx hb dX7_narrow_12 rfl ?_
      refine lv_goto (tgt := 33) hx hb dX7_narrow_13 (by decide) ?_
      exact b33 _ _  hF H locs ls hP hD hS (lv_sub hl [] rfl)
  have hl := lv_entry ([.int x0, .long x1]) (n := 3) (Nat.le_of_ble_eq_true rfl)
  rw [lg_entry_eq]
  generalize (lg_sl ([.int x0, .long x1]) ++ List.replicate (3 - (lg_sl ([.int x0, .long x1])).length) Slot.unset).toArray = ls at hl ⊢
  exact b_main _ _ _ hP hD hS hl

set_option maxRecDepth 100000 in
set_option maxHeartbeats 4000000 in
theorem m_X7_write  {x1 : Int32} {x2 : Int32} {x3 : Int64} {u u' : Mem} {r : Int64}  (hF : F_X7_write  u x1 x2 x3 = some (r, u')) : MR l D cc a yX7_write cX7_write 7 (some .long) 2 42 [.ref (a 0), .int x1, .int x2, .long x3] u (some (.long r)) u' := by
  refine MM.ofW (by decide) (fun p e s m below meth c S hr hlocks hK hEs hP hD hS => ?_)
  have S : CallFix p m c cX7_write 7 s _ gtbl RX7 := S
  obtain ⟨hx, hb, hml, hown, hts⟩ := id S
  unfold F_X7_write at hF
  have b_main : BW p l e s m below meth c 2 42 [.ref (a 0), .int x1, .int x2, .long x3] D (AM a) (some (.long r)) (wlM cc a u') 7 (wlM cc a u) 0 [(0, .ref (a 0)), (1, .int x1), (2, .int x2), (3, .long x3)] [] := by
    intro H locs ls hP hD hS hl
    refine lv_iload_n hx hb dX7_write_0 rfl (lv_at hl 1 rfl) ?_
    obtain ⟨r2, u1, e3, hF⟩ := bdI_some hF
    refine MM.callSi (m_X7_isSheet e3) k_X7_287 S emOK hEs hK ⟨by decide, by decide⟩ rfl rfl hl.1 (Nat.le_of_ble_eq_true rfl) dX7_write_1 ⟨Nat.le_refl _, Nat.le_refl _⟩ hP hD hS (fun H locs hP hD hS => ?_)
    refine lv_if_ne (tgt := 15) hx hb dX7_write_4 (by decide) (fun c4 => ?_) (fun c4 => ?_)
    · have hF := ite_f hF c4
      refine lv_aload_n hx hb dX7_write_15 rfl (lv_at hl 0 rfl) ?_
      refine va_get_w S hK hP _ c_MO rfl igX7 16 (by decide) q895 rfl rfl dX7_write_16 ?_
      refine lv_iload_n hx hb dX7_write_19 rfl (lv_at hl 1 rfl) ?_
      obtain ⟨hin5, hF⟩ := gd_some hF
      refine mIald S hK hP ⟨rfl, by decide⟩ rfl hin5 dX7_write_20 ?_
      refine lv_if_ne (tgt := 33) hx hb dX7_write_21 (by decide) (fun c6 => ?_) (fun c6 => ?_)
      · have hF := ite_f hF c6
        refine lv_iload_n hx hb dX7_write_33 rfl (lv_at hl 2 rfl) ?_
        refine lv_iconst (v := 0) hx hb dX7_write_34 (by decide) ?_
        refine lv_aload_n hx hb dX7_write_35 rfl (lv_at hl 0 rfl) ?_
        refine va_get_w S hK hP _ c_MO rfl igX7 17 (by decide) q896 rfl rfl dX7_write_36 ?_
        refine lv_iload_n hx hb dX7_write_39 rfl (lv_at hl 1 rfl) ?_
        obtain ⟨hin7, hF⟩ := gd_some hF
        refine mIald S hK hP ⟨rfl, by decide⟩ rfl hin7 dX7_write_40 ?_
        refine lv_iconst (v := 1) hx hb dX7_write_41 (by decide) ?_
        refine lv_isub hx hb dX7_write_42 ?_
        obtain ⟨r9, u8, e10, hF⟩ := bdI_some hF
        refine MM.callSi (m_X7_in e10) k_X7_64 S emOK hEs hK ⟨by decide, by decide⟩ rfl rfl hl.1 (Nat.le_of_ble_eq_true rfl) dX7_write_43 ⟨Nat.le_refl _, Nat.le_refl _⟩ hP hD hS (fun H locs hP hD hS => ?_)
        refine lv_if_ne (tgt := 57) hx hb dX7_write_46 (by decide) (fun c11 => ?_) (fun c11 => ?_)
        · have hF := ite_f hF c11
          refine lv_aload_n hx hb dX7_write_57 rfl (lv_at hl 0 rfl) ?_
          refine va_get_w S hK hP _ c_MO rfl igX7 18 (by decide) q897 rfl rfl dX7_write_58 ?_
          refine lv_bipush (v := 40) hx hb dX7_write_61 (by decide) ?_
          refine lv_iload_n hx hb dX7_write_63 rfl (lv_at hl 1 rfl) ?_
          refine lv_imul hx hb dX7_write_64 ?_
          refine lv_iload_n hx hb dX7_write_65 rfl (lv_at hl 2 rfl) ?_
          refine lv_iadd hx hb dX7_write_66 ?_
          obtain ⟨hin12, hF⟩ := gd_some hF
          refine mLald S hK hP ⟨rfl, by decide⟩ rfl hin12 dX7_write_67 ?_
          refine lv_lstore (lv' := [(5, .long _), (0, .ref _), (1, .int _), (2, .int _), (3, .long _)]) hx hb dX7_write_68 hl (by decide) rfl (fun ls hl => ?_)
          refine lv_aload_n hx hb dX7_write_70 rfl (lv_at hl 1 rfl) ?_
          refine va_get_w S hK hP _ c_MO rfl igX7 18 (by decide) q897 rfl rfl dX7_write_71 ?_
          refine lv_bipush (v := 40) hx hb dX7_write_74 (by decide) ?_
          refine lv_iload_n hx hb dX7_write_76 rfl (lv_at hl 2 rfl) ?_
          refine lv_imul hx hb dX7_write_77 ?_
          refine lv_iload_n hx hb dX7_write_78 rfl (lv_at hl 3 rfl) ?_
          refine lv_iadd hx hb dX7_write_79 ?_
          refine lv_aload_n hx hb dX7_write_80 rfl (lv_at hl 1 rfl) ?_
          refine va_get_w S hK hP _ c_MO rfl igX7 16 (by decide) q895 rfl rfl dX7_write_81 ?_
          refine lv_iload_n hx hb dX7_write_84 rfl (lv_at hl 2 rfl) ?_
          obtain ⟨hin13, hF⟩ := gd_some hF
          refine mIald S hK hP ⟨rfl, by decide⟩ rfl hin13 dX7_write_85 ?_
          refine lv_lload_n hx hb dX7_write_86 rfl (lv_at hl 4 rfl) ?_
          obtain ⟨r15, u14, e16, hF⟩ := bdL_some hF
          refine MM.callSl (m_X7_narrow e16) k_X7_291 S emOK hEs hK ⟨by decide, by decide⟩ rfl rfl hl.1 (Nat.le_of_ble_eq_true rfl) dX7_write_87 ⟨Nat.le_refl _, Nat.le_refl _⟩ hP hD hS (fun H locs hP hD hS => ?_)
          obtain ⟨hin17, hF⟩ := gd_some hF
          refine mLast S hK hP hD hS ⟨rfl, by decide⟩ rfl hin17 dX7_write_90 (fun H locs hP hD hS => ?_)
          refine lv_lload hx hb dX7_write_91 (lv_at hl 0 rfl) ?_
          obtain ⟨rfl, rfl⟩ := sp_eq hF
          exact retL S hr hlocks hP hD hS dX7_write_93
        · have hF := ite_t hF c11
          refine lv_aload_n hx hb dX7_write_49 rfl (lv_at hl 0 rfl) ?_
          refine lv_ldc hx hb hown (hts _ q966) dX7_write_50 ?_
          obtain ⟨r19, u18, e20, hF⟩ := bdI_some hF
          refine MM.callVi (m_X7_finds e20) k_X7_94 S emOK hEs hK ⟨by decide, by decide⟩ (va_recv hK hP rfl c_MO) rfl rfl hl.1 (Nat.le_of_ble_eq_true rfl) dX7_write_52 ⟨Nat.le_refl _, Nat.le_refl _⟩ hP hD hS (fun H locs hP hD hS => ?_)
          refine lv_i2l hx hb dX7_write_55 rfl ?_
          obtain ⟨rfl, rfl⟩ := sp_eq hF
          exact retL S hr hlocks hP hD hS dX7_write_56
      · have hF := ite_t hF c6
        refine lv_aload_n hx hb dX7_write_24 rfl (lv_at hl 0 rfl) ?_
        refine lv_ldcw hx hb hown (hts _ q1301) dX7_write_25 ?_
        obtain ⟨r22, u21, e23, hF⟩ := bdI_some hF
        refine MM.callVi (m_X7_finds e23) k_X7_94 S emOK hEs hK ⟨by decide, by decide⟩ (va_recv hK hP rfl c_MO) rfl rfl hl.1 (Nat.le_of_ble_eq_true rfl) dX7_write_28 ⟨Nat.le_refl _, Nat.le_refl _⟩ hP hD hS (fun H locs hP hD hS => ?_)
        refine lv_i2l hx hb dX7_write_31 rfl ?_
        obtain ⟨rfl, rfl⟩ := sp_eq hF
        exact retL S hr hlocks hP hD hS dX7_write_32
    · have hF := ite_t hF c4
      refine lv_aload_n hx hb dX7_write_7 rfl (lv_at hl 0 rfl) ?_
      refine lv_ldc hx hb hown (hts _ q966) dX7_write_8 ?_
      obtain ⟨r25, u24, e26, hF⟩ := bdI_some hF
      refine MM.callVi (m_X7_finds e26) k_X7_94 S emOK hEs hK ⟨by decide, by decide⟩ (va_recv hK hP rfl c_MO) rfl rfl hl.1 (Nat.le_of_ble_eq_true rfl) dX7_write_10 ⟨Nat.le_refl _, Nat.le_refl _⟩ hP hD hS (fun H locs hP hD hS => ?_)
      refine lv_i2l hx hb dX7_write_13 rfl ?_
      obtain ⟨rfl, rfl⟩ := sp_eq hF
      exact retL S hr hlocks hP hD hS dX7_write_14
  have hl := lv_entry ([.ref (a 0), .int x1, .int x2, .long x3]) (n := 7) (Nat.le_of_ble_eq_true rfl)
  rw [lg_entry_eq]
  generalize (lg_sl ([.ref (a 0), .int x1, .int x2, .long x3]) ++ List.replicate (7 - (lg_sl ([.ref (a 0), .int x1, .int x2, .long x3])).length) Slot.unset).toArray = ls at hl ⊢
  exact b_main _ _ _ hP hD hS hl

set_option maxRecDepth 100000 in
set_option maxHeartbeats 4000000 in
theorem m_X7_isPart  {x1 : Int32} {x2 : Int32} {x3 : Int32} {u u' : Mem} {r : Int32}  (hF : F_X7_isPart  u x1 x2 x3 = some (r, u')) : MR l D cc a yX7_isPart cX7_isPart 4 (some .boolean) 0 0 [.ref (a 0), .int x1, .int x2, .int x3] u (some (.int r)) u' := by
  refine MM.ofW (by decide) (fun p e s m below meth c S hr hlocks hK hEs hP hD hS => ?_)
  have S : CallFix p m c cX7_isPart 4 s _ gtbl RX7 := S
  obtain ⟨hx, hb, hml, hown, hts⟩ := id S
  have b35 : ∀  (u : Mem) (y0 : Int32) , F_X7_isPart_35  u y0 = some (r, u') → BW p l e s m below meth c 0 0 [.ref (a 0), .int x1, .int x2, .int x3] D (AM a) (some (.int r)) (wlM cc a u') 4 (wlM cc a u) 35 [] [.int y0] := by
    intro  u y0 hF H locs ls hP hD hS hl
    unfold F_X7_isPart_35 at hF
    obtain ⟨hz1, hF⟩ := gz_some hF
    obtain ⟨rfl, rfl⟩ := sp_eq hF
    exact retZ S hr hlocks hP hD hS hz1 dX7_isPart_35
  have b34 : ∀  (u : Mem)  , F_X7_isPart_34  u  = some (r, u') → BW p l e s m below meth c 0 0 [.ref (a 0), .int x1, .int x2, .int x3] D (AM a) (some (.int r)) (wlM cc a u') 4 (wlM cc a u) 34 [] [] := by
    intro  u  hF H locs ls hP hD hS hl
    unfold F_X7_isPart_34 at hF
    refine lv_iconst (v := 0) hx hb dX7_isPart_34 (by decide) ?_
    exact b35 _ _  hF H locs ls hP hD hS (lv_sub hl [] rfl)
  unfold F_X7_isPart at hF
  have b_main : BW p l e s m below meth c 0 0 [.ref (a 0), .int x1, .int x2, .int x3] D (AM a) (some (.int r)) (wlM cc a u') 4 (wlM cc a u) 0 [(0, .ref (a 0)), (1, .int x1), (2, .int x2), (3, .int x3)] [] := by
    intro H locs ls hP hD hS hl
    refine lv_iload_n hx hb dX7_isPart_0 rfl (lv_at hl 2 rfl) ?_
    refine lv_if_lt (tgt := 34) hx hb dX7_isPart_1 (by decide) (fun c2 => ?_) (fun c2 => ?_)
    · have hF := ite_t hF c2
      exact b34 _  hF H locs ls hP hD hS (lv_sub hl [] rfl)
    · have hF := ite_f hF c2
      refine lv_iload_n hx hb dX7_isPart_4 rfl (lv_at hl 3 rfl) ?_
      refine lv_if_lt (tgt := 34) hx hb dX7_isPart_5 (by decide) (fun c3 => ?_) (fun c3 => ?_)
      · have hF := ite_t hF c3
        exact b34 _  hF H locs ls hP hD hS (lv_sub hl [] rfl)
      · have hF := ite_f hF c3
        refine lv_iload_n hx hb dX7_isPart_8 rfl (lv_at hl 3 rfl) ?_
        refine lv_aload_n hx hb dX7_isPart_9 rfl (lv_at hl 0 rfl) ?_
        refine va_get_w S hK hP _ c_MO rfl igX7 17 (by decide) q896 rfl rfl dX7_isPart_10 ?_
        refine lv_iload_n hx hb dX7_isPart_13 rfl (lv_at hl 1 rfl) ?_
        obtain ⟨hin4, hF⟩ := gd_some hF
        refine mIald S hK hP ⟨rfl, by decide⟩ rfl hin4 dX7_isPart_14 ?_
        refine lv_icmp_gt (tgt := 34) hx hb dX7_isPart_15 (by decide) (fun c5 => ?_) (fun c5 => ?_)
        · have hF := ite_t hF c5
          exact b34 _  hF H locs ls hP hD hS (lv_sub hl [] rfl)
        · have hF := ite_f hF c5
          refine lv_iload_n hx hb dX7_isPart_18 rfl (lv_at hl 2 rfl) ?_
          refine lv_aload_n hx hb dX7_isPart_19 rfl (lv_at hl 0 rfl) ?_
          refine va_get_w S hK hP _ c_MO rfl igX7 17 (by decide) q896 rfl rfl dX7_isPart_20 ?_
          refine lv_iload_n hx hb dX7_isPart_23 rfl (lv_at hl 1 rfl) ?_
          obtain ⟨hin6, hF⟩ := gd_some hF
          refine mIald S hK hP ⟨rfl, by decide⟩ rfl hin6 dX7_isPart_24 ?_
          refine lv_iload_n hx hb dX7_isPart_25 rfl (lv_at hl 3 rfl) ?_
          refine lv_isub hx hb dX7_isPart_26 ?_
          refine lv_icmp_gt (tgt := 34) hx hb dX7_isPart_27 (by decide) (fun c7 => ?_) (fun c7 => ?_)
          · have hF := ite_t hF c7
            exact b34 _  hF H locs ls hP hD hS (lv_sub hl [] rfl)
          · have hF := ite_f hF c7
            refine lv_iconst (v := 1) hx hb dX7_isPart_30 (by decide) ?_
            refine lv_goto (tgt := 35) hx hb dX7_isPart_31 (by decide) ?_
            exact b35 _ _  hF H locs ls hP hD hS (lv_sub hl [] rfl)
  have hl := lv_entry ([.ref (a 0), .int x1, .int x2, .int x3]) (n := 4) (Nat.le_of_ble_eq_true rfl)
  rw [lg_entry_eq]
  generalize (lg_sl ([.ref (a 0), .int x1, .int x2, .int x3]) ++ List.replicate (4 - (lg_sl ([.ref (a 0), .int x1, .int x2, .int x3])).length) Slot.unset).toArray = ls at hl ⊢
  exact b_main _ _ _ hP hD hS hl

set_option maxRecDepth 100000 in
set_option maxHeartbeats 4000000 in
theorem m_X7_copy  {x1 : Int32} {x2 : Int32} {x3 : Int32} {x4 : Int32} {x5 : Int32} {u u' : Mem} {r : Int32}  (hF : F_X7_copy  u x1 x2 x3 x4 x5 = some (r, u')) : MR l D cc a yX7_copy cX7_copy 7 (some .int) 2 42 [.ref (a 0), .int x1, .int x2, .int x3, .int x4, .int x5] u (some (.int r)) u' := by
  refine MM.ofW (by decide) (fun p e s m below meth c S hr hlocks hK hEs hP hD hS => ?_)
  have S : CallFix p m c cX7_copy 7 s _ gtbl RX7 := S
  obtain ⟨hx, hb, hml, hown, hts⟩ := id S
  have b14 : ∀  (u : Mem)  , F_X7_copy_14  u  = some (r, u') → BW p l e s m below meth c 2 42 [.ref (a 0), .int x1, .int x2, .int x3, .int x4, .int x5] D (AM a) (some (.int r)) (wlM cc a u') 7 (wlM cc a u) 14 [(0, .ref (a 0))] [] := by
    intro  u  hF H locs ls hP hD hS hl
    unfold F_X7_copy_14 at hF
    refine lv_aload_n hx hb dX7_copy_14 rfl (lv_at hl 0 rfl) ?_
    refine lv_ldc hx hb hown (hts _ q966) dX7_copy_15 ?_
    obtain ⟨r2, u1, e3, hF⟩ := bdI_some hF
    refine MM.callVi (m_X7_finds e3) k_X7_94 S emOK hEs hK ⟨by decide, by decide⟩ (va_recv hK hP rfl c_MO) rfl rfl hl.1 (Nat.le_of_ble_eq_true rfl) dX7_copy_17 ⟨Nat.le_refl _, Nat.le_refl _⟩ hP hD hS (fun H locs hP hD hS => ?_)
    obtain ⟨rfl, rfl⟩ := sp_eq hF
    exact retI S hr hlocks hP hD hS dX7_copy_20
  have b39 : ∀  (u : Mem)  , F_X7_copy_39  u  = some (r, u') → BW p l e s m below meth c 2 42 [.ref (a 0), .int x1, .int x2, .int x3, .int x4, .int x5] D (AM a) (some (.int r)) (wlM cc a u') 7 (wlM cc a u) 39 [(0, .ref (a 0))] [] := by
    intro  u  hF H locs ls hP hD hS hl
    unfold F_X7_copy_39 at hF
    refine lv_aload_n hx hb dX7_copy_39 rfl (lv_at hl 0 rfl) ?_
    refine lv_ldcw hx hb hown (hts _ q1301) dX7_copy_40 ?_
    obtain ⟨r5, u4, e6, hF⟩ := bdI_some hF
    refine MM.callVi (m_X7_finds e6) k_X7_94 S emOK hEs hK ⟨by decide, by decide⟩ (va_recv hK hP rfl c_MO) rfl rfl hl.1 (Nat.le_of_ble_eq_true rfl) dX7_copy_43 ⟨Nat.le_refl _, Nat.le_refl _⟩ hP hD hS (fun H locs hP hD hS => ?_)
    obtain ⟨rfl, rfl⟩ := sp_eq hF
    exact retI S hr hlocks hP hD hS dX7_copy_46
  have b92 : ∀  (u : Mem)  , F_X7_copy_92  u  = some (r, u') → BW p l e s m below meth c 2 42 [.ref (a 0), .int x1, .int x2, .int x3, .int x4, .int x5] D (AM a) (some (.int r)) (wlM cc a u') 7 (wlM cc a u) 92 [(0, .ref (a 0))] [] := by
    intro  u  hF H locs ls hP hD hS hl
    unfold F_X7_copy_92 at hF
    refine lv_aload_n hx hb dX7_copy_92 rfl (lv_at hl 0 rfl) ?_
    refine lv_ldc hx hb hown (hts _ q966) dX7_copy_93 ?_
    obtain ⟨r8, u7, e9, hF⟩ := bdI_some hF
    refine MM.callVi (m_X7_finds e9) k_X7_94 S emOK hEs hK ⟨by decide, by decide⟩ (va_recv hK hP rfl c_MO) rfl rfl hl.1 (Nat.le_of_ble_eq_true rfl) dX7_copy_95 ⟨Nat.le_refl _, Nat.le_refl _⟩ hP hD hS (fun H locs hP hD hS => ?_)
    obtain ⟨rfl, rfl⟩ := sp_eq hF
    exact retI S hr hlocks hP hD hS dX7_copy_98
  have b139 : ∀ (n : Nat) (u : Mem) (v3 : Int32) (v4 : Int32) (v5 : Int32) (v6 : Int32) , F_X7_copy_139  n u v3 v4 v5 v6 = some (r, u') → BW p l e s m below meth c 2 42 [.ref (a 0), .int x1, .int x2, .int x3, .int x4, .int x5] D (AM a) (some (.int r)) (wlM cc a u') 7 (wlM cc a u) 139 [(0, .ref (a 0)), (3, .int v3), (4, .int v4), (5, .int v5), (6, .int v6)] [] := by
    intro n
    induction n with
    | zero => intro u v3 v4 v5 v6 hF; cases hF
    | succ n ih =>
      intro u v3 v4 v5 v6 hF H locs ls hP hD hS hl
      unfold F_X7_copy_139 at hF
      refine lv_iload hx hb dX7_copy_139 (lv_at hl 4 rfl) ?_
      refine lv_iload hx hb dX7_copy_141 (lv_at hl 3 rfl) ?_
      refine lv_icmp_ge (tgt := 174) hx hb dX7_copy_143 (by decide) (fun c10 => ?_) (fun c10 => ?_)
      · have hF := ite_t hF c10
        refine lv_iload hx hb dX7_copy_174 (lv_at hl 3 rfl) ?_
        obtain ⟨rfl, rfl⟩ := sp_eq hF
        exact retI S hr hlocks hP hD hS dX7_copy_176
      · have hF := ite_f hF c10
        refine lv_aload_n hx hb dX7_copy_146 rfl (lv_at hl 0 rfl) ?_
        refine va_get_w S hK hP _ c_MO rfl igX7 18 (by decide) q897 rfl rfl dX7_copy_147 ?_
        refine lv_bipush (v := 40) hx hb dX7_copy_150 (by decide) ?_
        refine lv_iload_n hx hb dX7_copy_152 rfl (lv_at hl 1 rfl) ?_
        refine lv_imul hx hb dX7_copy_153 ?_
        refine lv_iload hx hb dX7_copy_154 (lv_at hl 2 rfl) ?_
        refine lv_iadd hx hb dX7_copy_156 ?_
        refine lv_iload hx hb dX7_copy_157 (lv_at hl 4 rfl) ?_
        refine lv_iadd hx hb dX7_copy_159 ?_
        refine lv_aload_n hx hb dX7_copy_160 rfl (lv_at hl 0 rfl) ?_
        refine va_get_w S hK hP _ c_MO rfl igX7 19 (by decide) q898 rfl rfl dX7_copy_161 ?_
        refine lv_iload hx hb dX7_copy_164 (lv_at hl 4 rfl) ?_
        obtain ⟨hin11, hF⟩ := gd_some hF
        refine mLald S hK hP ⟨rfl, by decide⟩ rfl hin11 dX7_copy_166 ?_
        obtain ⟨hin12, hF⟩ := gd_some hF
        refine mLast S hK hP hD hS ⟨rfl, by decide⟩ rfl hin12 dX7_copy_167 (fun H locs hP hD hS => ?_)
        obtain ⟨u13, e14, hF⟩ := bdV_some hF
        obtain rfl := sv_eq e14
        refine lv_inc1 (k := 4) (lv' := [(6, .int _), (0, .ref _), (3, .int _), (4, .int _), (5, .int _)]) hx hb dX7_copy_168 hl rfl (by decide) rfl (fun ls hl => ?_)
        refine lv_goto (tgt := 139) hx hb dX7_copy_171 (by decide) ?_
        exact ih _ _ _ _ _  hF H locs ls hP hD hS (lv_sub hl [1, 2, 3, 4, 0] rfl)
  have b102 : ∀ (n : Nat) (u : Mem) (v1 : Int32) (v2 : Int32) (v3 : Int32) (v4 : Int32) (v5 : Int32) (v6 : Int32) , F_X7_copy_102  n u v1 v2 v3 v4 v5 v6 = some (r, u') → BW p l e s m below meth c 2 42 [.ref (a 0), .int x1, .int x2, .int x3, .int x4, .int x5] D (AM a) (some (.int r)) (wlM cc a u') 7 (wlM cc a u) 102 [(0, .ref (a 0)), (1, .int v1), (2, .int v2), (3, .int v3), (4, .int v4), (5, .int v5), (6, .int v6)] [] := by
    intro n
    induction n with
    | zero => intro u v1 v2 v3 v4 v5 v6 hF; cases hF
    | succ n ih =>
      intro u v1 v2 v3 v4 v5 v6 hF H locs ls hP hD hS hl
      unfold F_X7_copy_102 at hF
      refine lv_iload hx hb dX7_copy_102 (lv_at hl 6 rfl) ?_
      refine lv_iload hx hb dX7_copy_104 (lv_at hl 5 rfl) ?_
      refine lv_icmp_ge (tgt := 136) hx hb dX7_copy_106 (by decide) (fun c15 => ?_) (fun c15 => ?_)
      · have hF := ite_t hF c15
        refine lv_iconst (v := 0) hx hb dX7_copy_136 (by decide) ?_
        refine lv_istore (lv' := [(6, .int _), (0, .ref _), (1, .int _), (2, .int _), (3, .int _), (4, .int _), (5, .int _)]) hx hb dX7_copy_137 hl (by decide) rfl (fun ls hl => ?_)
        exact b139 _ _ _ _ _ _  hF H locs ls hP hD hS (lv_sub hl [1, 4, 5, 6, 0] rfl)
      · have hF := ite_f hF c15
        refine lv_aload_n hx hb dX7_copy_109 rfl (lv_at hl 0 rfl) ?_
        refine va_get_w S hK hP _ c_MO rfl igX7 19 (by decide) q898 rfl rfl dX7_copy_110 ?_
        refine lv_iload hx hb dX7_copy_113 (lv_at hl 6 rfl) ?_
        refine lv_aload_n hx hb dX7_copy_115 rfl (lv_at hl 0 rfl) ?_
        refine va_get_w S hK hP _ c_MO rfl igX7 18 (by decide) q897 rfl rfl dX7_copy_116 ?_
        refine lv_bipush (v := 40) hx hb dX7_copy_119 (by decide) ?_
        refine lv_iload_n hx hb dX7_copy_121 rfl (lv_at hl 1 rfl) ?_
        refine lv_imul hx hb dX7_copy_122 ?_
        refine lv_iload_n hx hb dX7_copy_123 rfl (lv_at hl 2 rfl) ?_
        refine lv_iadd hx hb dX7_copy_124 ?_
        refine lv_iload hx hb dX7_copy_125 (lv_at hl 6 rfl) ?_
        refine lv_iadd hx hb dX7_copy_127 ?_
        obtain ⟨hin16, hF⟩ := gd_some hF
        refine mLald S hK hP ⟨rfl, by decide⟩ rfl hin16 dX7_copy_128 ?_
        obtain ⟨hin17, hF⟩ := gd_some hF
        refine mLast S hK hP hD hS ⟨rfl, by decide⟩ rfl hin17 dX7_copy_129 (fun H locs hP hD hS => ?_)
        obtain ⟨u18, e19, hF⟩ := bdV_some hF
        obtain rfl := sv_eq e19
        refine lv_inc1 (k := 6) (lv' := [(6, .int _), (0, .ref _), (1, .int _), (2, .int _), (3, .int _), (4, .int _), (5, .int _)]) hx hb dX7_copy_130 hl rfl (by decide) rfl (fun ls hl => ?_)
        refine lv_goto (tgt := 102) hx hb dX7_copy_133 (by decide) ?_
        exact ih _ _ _ _ _ _ _  hF H locs ls hP hD hS (lv_sub hl [1, 2, 3, 4, 5, 6, 0] rfl)
  unfold F_X7_copy at hF
  have b_main : BW p l e s m below meth c 2 42 [.ref (a 0), .int x1, .int x2, .int x3, .int x4, .int x5] D (AM a) (some (.int r)) (wlM cc a u') 7 (wlM cc a u) 0 [(0, .ref (a 0)), (1, .int x1), (2, .int x2), (3, .int x3), (4, .int x4), (5, .int x5)] [] := by
    intro H locs ls hP hD hS hl
    refine lv_iload_n hx hb dX7_copy_0 rfl (lv_at hl 1 rfl) ?_
    obtain ⟨r21, u20, e22, hF⟩ := bdI_some hF
    refine MM.callSi (m_X7_isSheet e22) k_X7_287 S emOK hEs hK ⟨by decide, by decide⟩ rfl rfl hl.1 (Nat.le_of_ble_eq_true rfl) dX7_copy_1 ⟨Nat.le_refl _, Nat.le_refl _⟩ hP hD hS (fun H locs hP hD hS => ?_)
    refine lv_if_eq (tgt := 14) hx hb dX7_copy_4 (by decide) (fun c23 => ?_) (fun c23 => ?_)
    · have hF := ite_t hF c23
      exact b14 _  hF H locs ls hP hD hS (lv_sub hl [0] rfl)
    · have hF := ite_f hF c23
      refine lv_iload_n hx hb dX7_copy_7 rfl (lv_at hl 3 rfl) ?_
      obtain ⟨r25, u24, e26, hF⟩ := bdI_some hF
      refine MM.callSi (m_X7_isSheet e26) k_X7_287 S emOK hEs hK ⟨by decide, by decide⟩ rfl rfl hl.1 (Nat.le_of_ble_eq_true rfl) dX7_copy_8 ⟨Nat.le_refl _, Nat.le_refl _⟩ hP hD hS (fun H locs hP hD hS => ?_)
      refine lv_if_ne (tgt := 21) hx hb dX7_copy_11 (by decide) (fun c27 => ?_) (fun c27 => ?_)
      · have hF := ite_f hF c27
        refine lv_aload_n hx hb dX7_copy_21 rfl (lv_at hl 0 rfl) ?_
        refine va_get_w S hK hP _ c_MO rfl igX7 16 (by decide) q895 rfl rfl dX7_copy_22 ?_
        refine lv_iload_n hx hb dX7_copy_25 rfl (lv_at hl 1 rfl) ?_
        obtain ⟨hin28, hF⟩ := gd_some hF
        refine mIald S hK hP ⟨rfl, by decide⟩ rfl hin28 dX7_copy_26 ?_
        refine lv_if_eq (tgt := 39) hx hb dX7_copy_27 (by decide) (fun c29 => ?_) (fun c29 => ?_)
        · have hF := ite_t hF c29
          exact b39 _  hF H locs ls hP hD hS (lv_sub hl [0] rfl)
        · have hF := ite_f hF c29
          refine lv_aload_n hx hb dX7_copy_30 rfl (lv_at hl 0 rfl) ?_
          refine va_get_w S hK hP _ c_MO rfl igX7 16 (by decide) q895 rfl rfl dX7_copy_31 ?_
          refine lv_iload_n hx hb dX7_copy_34 rfl (lv_at hl 3 rfl) ?_
          obtain ⟨hin30, hF⟩ := gd_some hF
          refine mIald S hK hP ⟨rfl, by decide⟩ rfl hin30 dX7_copy_35 ?_
          refine lv_if_ne (tgt := 47) hx hb dX7_copy_36 (by decide) (fun c31 => ?_) (fun c31 => ?_)
          · have hF := ite_f hF c31
            refine lv_aload_n hx hb dX7_copy_47 rfl (lv_at hl 0 rfl) ?_
            refine va_get_w S hK hP _ c_MO rfl igX7 16 (by decide) q895 rfl rfl dX7_copy_48 ?_
            refine lv_iload_n hx hb dX7_copy_51 rfl (lv_at hl 1 rfl) ?_
            obtain ⟨hin32, hF⟩ := gd_some hF
            refine mIald S hK hP ⟨rfl, by decide⟩ rfl hin32 dX7_copy_52 ?_
            refine lv_aload_n hx hb dX7_copy_53 rfl (lv_at hl 0 rfl) ?_
            refine va_get_w S hK hP _ c_MO rfl igX7 16 (by decide) q895 rfl rfl dX7_copy_54 ?_
            refine lv_iload_n hx hb dX7_copy_57 rfl (lv_at hl 3 rfl) ?_
            obtain ⟨hin33, hF⟩ := gd_some hF
            refine mIald S hK hP ⟨rfl, by decide⟩ rfl hin33 dX7_copy_58 ?_
            refine lv_icmp_eq (tgt := 69) hx hb dX7_copy_59 (by decide) (fun c34 => ?_) (fun c34 => ?_)
            · have hF := ite_t hF c34
              refine lv_aload_n hx hb dX7_copy_69 rfl (lv_at hl 0 rfl) ?_
              refine lv_iload_n hx hb dX7_copy_70 rfl (lv_at hl 1 rfl) ?_
              refine lv_iload_n hx hb dX7_copy_71 rfl (lv_at hl 2 rfl) ?_
              refine lv_iload hx hb dX7_copy_72 (lv_at hl 5 rfl) ?_
              obtain ⟨r36, u35, e37, hF⟩ := bdI_some hF
              refine MM.callVi (m_X7_isPart e37) k_X7_295 S emOK hEs hK ⟨by decide, by decide⟩ (va_recv hK hP rfl c_MO) rfl rfl hl.1 (Nat.le_of_ble_eq_true rfl) dX7_copy_74 ⟨Nat.le_refl _, Nat.le_refl _⟩ hP hD hS (fun H locs hP hD hS => ?_)
              refine lv_if_eq (tgt := 92) hx hb dX7_copy_77 (by decide) (fun c38 => ?_) (fun c38 => ?_)
              · have hF := ite_t hF c38
                exact b92 _  hF H locs ls hP hD hS (lv_sub hl [0] rfl)
              · have hF := ite_f hF c38
                refine lv_aload_n hx hb dX7_copy_80 rfl (lv_at hl 0 rfl) ?_
                refine lv_iload_n hx hb dX7_copy_81 rfl (lv_at hl 3 rfl) ?_
                refine lv_iload hx hb dX7_copy_82 (lv_at hl 4 rfl) ?_
                refine lv_iload hx hb dX7_copy_84 (lv_at hl 5 rfl) ?_
                obtain ⟨r40, u39, e41, hF⟩ := bdI_some hF
                refine MM.callVi (m_X7_isPart e41) k_X7_295 S emOK hEs hK ⟨by decide, by decide⟩ (va_recv hK hP rfl c_MO) rfl rfl hl.1 (Nat.le_of_ble_eq_true rfl) dX7_copy_86 ⟨Nat.le_refl _, Nat.le_refl _⟩ hP hD hS (fun H locs hP hD hS => ?_)
                refine lv_if_ne (tgt := 99) hx hb dX7_copy_89 (by decide) (fun c42 => ?_) (fun c42 => ?_)
                · have hF := ite_f hF c42
                  refine lv_iconst (v := 0) hx hb dX7_copy_99 (by decide) ?_
                  refine lv_istore (lv' := [(6, .int _), (0, .ref _), (1, .int _), (2, .int _), (3, .int _), (4, .int _), (5, .int _)]) hx hb dX7_copy_100 hl (by decide) rfl (fun ls hl => ?_)
                  exact b102 _ _ _ _ _ _ _ _  hF H locs ls hP hD hS (lv_sub hl [1, 2, 3, 4, 5, 6, 0] rfl)
                · have hF := ite_t hF c42
                  exact b92 _  hF H locs ls hP hD hS (lv_sub hl [0] rfl)
            · have hF := ite_f hF c34
              refine lv_aload_n hx hb dX7_copy_62 rfl (lv_at hl 0 rfl) ?_
              refine lv_ldc hx hb hown (hts _ q1042) dX7_copy_63 ?_
              obtain ⟨r44, u43, e45, hF⟩ := bdI_some hF
              refine MM.callVi (m_X7_finds e45) k_X7_94 S emOK hEs hK ⟨by decide, by decide⟩ (va_recv hK hP rfl c_MO) rfl rfl hl.1 (Nat.le_of_ble_eq_true rfl) dX7_copy_65 ⟨Nat.le_refl _, Nat.le_refl _⟩ hP hD hS (fun H locs hP hD hS => ?_)
              obtain ⟨rfl, rfl⟩ := sp_eq hF
              exact retI S hr hlocks hP hD hS dX7_copy_68
          · have hF := ite_t hF c31
            exact b39 _  hF H locs ls hP hD hS (lv_sub hl [0] rfl)
      · have hF := ite_t hF c27
        exact b14 _  hF H locs ls hP hD hS (lv_sub hl [0] rfl)
  have hl := lv_entry ([.ref (a 0), .int x1, .int x2, .int x3, .int x4, .int x5]) (n := 7) (Nat.le_of_ble_eq_true rfl)
  rw [lg_entry_eq]
  generalize (lg_sl ([.ref (a 0), .int x1, .int x2, .int x3, .int x4, .int x5]) ++ List.replicate (7 - (lg_sl ([.ref (a 0), .int x1, .int x2, .int x3, .int x4, .int x5])).length) Slot.unset).toArray = ls at hl ⊢
  exact b_main _ _ _ hP hD hS hl

set_option maxRecDepth 100000 in
set_option maxHeartbeats 4000000 in
theorem m_X7_dates  {x1 : Int32} {u u' : Mem} {r : Int32}  (hF : F_X7_dates  u x1 = some (r, u')) : MR l D cc a yX7_dates cX7_dates 6 (some .int) 2 42 [.ref (a 0), .int x1] u (some (.int r)) u' := by
  refine MM.ofW (by decide) (fun p e s m below meth c S hr hlocks hK hEs hP hD hS => ?_)
  have S : CallFix p m c cX7_dates 6 s _ gtbl RX7 := S
  obtain ⟨hx, hb, hml, hown, hts⟩ := id S
  have b102 : ∀  (u : Mem) (v2 : Int32) , F_X7_dates_102  u v2 = some (r, u') → BW p l e s m below meth c 2 42 [.ref (a 0), .int x1] D (AM a) (some (.int r)) (wlM cc a u') 6 (wlM cc a u) 102 [(2, .int v2)] [] := by
    intro  u v2 hF H locs ls hP hD hS hl
    unfold F_X7_dates_102 at hF
    refine lv_iload_n hx hb dX7_dates_102 rfl (lv_at hl 0 rfl) ?_
    obtain ⟨rfl, rfl⟩ := sp_eq hF
    exact retI S hr hlocks hP hD hS dX7_dates_103
  have b96 : ∀ (k35 : Mem → Int32 → Int32 → Int32 → Option (Int32 × Mem)) (hk35 : ∀ (u : Mem) (v1 : Int32) (v2 : Int32) (v3 : Int32) , k35 u v1 v2 v3 = some (r, u') → BW p l e s m below meth c 2 42 [.ref (a 0), .int x1] D (AM a) (some (.int r)) (wlM cc a u') 6 (wlM cc a u) 35 [(0, .ref (a 0)), (1, .int v1), (2, .int v2), (3, .int v3)] []) (u : Mem) (v1 : Int32) (v2 : Int32) (v3 : Int32) , F_X7_dates_96 k35 u v1 v2 v3 = some (r, u') → BW p l e s m below meth c 2 42 [.ref (a 0), .int x1] D (AM a) (some (.int r)) (wlM cc a u') 6 (wlM cc a u) 96 [(0, .ref (a 0)), (1, .int v1), (2, .int v2), (3, .int v3)] [] := by
    intro k35 hk35 u v1 v2 v3 hF H locs ls hP hD hS hl
    unfold F_X7_dates_96 at hF
    refine lv_inc1 (k := 3) (lv' := [(3, .int _), (0, .ref _), (1, .int _), (2, .int _)]) hx hb dX7_dates_96 hl rfl (by decide) rfl (fun ls hl => ?_)
    refine lv_goto (tgt := 35) hx hb dX7_dates_99 (by decide) ?_
    exact hk35 _ _ _ _  hF H locs ls hP hD hS (lv_sub hl [1, 2, 3, 0] rfl)
  have b35 : ∀ (n : Nat) (u : Mem) (v1 : Int32) (v2 : Int32) (v3 : Int32) , F_X7_dates_35  n u v1 v2 v3 = some (r, u') → BW p l e s m below meth c 2 42 [.ref (a 0), .int x1] D (AM a) (some (.int r)) (wlM cc a u') 6 (wlM cc a u) 35 [(0, .ref (a 0)), (1, .int v1), (2, .int v2), (3, .int v3)] [] := by
    intro n
    induction n with
    | zero => intro u v1 v2 v3 hF; cases hF
    | succ n ih =>
      intro u v1 v2 v3 hF H locs ls hP hD hS hl
      unfold F_X7_dates_35 at hF
      refine lv_iload_n hx hb dX7_dates_35 rfl (lv_at hl 3 rfl) ?_
      refine lv_aload_n hx hb dX7_dates_36 rfl (lv_at hl 0 rfl) ?_
      refine va_get_w S hK hP _ c_MO rfl igX7 0 (by decide) q879 rfl rfl dX7_dates_37 ?_
      refine lv_iconst (v := 0) hx hb dX7_dates_40 (by decide) ?_
      obtain ⟨hin1, hF⟩ := gd_some hF
      refine mIald S hK hP ⟨rfl, by decide⟩ rfl hin1 dX7_dates_41 ?_
      refine lv_icmp_ge (tgt := 102) hx hb dX7_dates_42 (by decide) (fun c2 => ?_) (fun c2 => ?_)
      · have hF := ite_t hF c2
        exact b102 _ _  hF H locs ls hP hD hS (lv_sub hl [2] rfl)
      · have hF := ite_f hF c2
        refine lv_iload_n hx hb dX7_dates_45 rfl (lv_at hl 3 rfl) ?_
        refine lv_aload_n hx hb dX7_dates_46 rfl (lv_at hl 0 rfl) ?_
        refine va_get_w S hK hP _ c_MO rfl igX7 17 (by decide) q896 rfl rfl dX7_dates_47 ?_
        refine lv_iload_n hx hb dX7_dates_50 rfl (lv_at hl 1 rfl) ?_
        obtain ⟨hin3, hF⟩ := gd_some hF
        refine mIald S hK hP ⟨rfl, by decide⟩ rfl hin3 dX7_dates_51 ?_
        refine lv_icmp_ge (tgt := 102) hx hb dX7_dates_52 (by decide) (fun c4 => ?_) (fun c4 => ?_)
        · have hF := ite_t hF c4
          exact b102 _ _  hF H locs ls hP hD hS (lv_sub hl [2] rfl)
        · have hF := ite_f hF c4
          refine lv_aload_n hx hb dX7_dates_55 rfl (lv_at hl 0 rfl) ?_
          refine va_get_w S hK hP _ c_MO rfl igX7 18 (by decide) q897 rfl rfl dX7_dates_56 ?_
          refine lv_bipush (v := 40) hx hb dX7_dates_59 (by decide) ?_
          refine lv_iload_n hx hb dX7_dates_61 rfl (lv_at hl 1 rfl) ?_
          refine lv_imul hx hb dX7_dates_62 ?_
          refine lv_iload_n hx hb dX7_dates_63 rfl (lv_at hl 3 rfl) ?_
          refine lv_iadd hx hb dX7_dates_64 ?_
          obtain ⟨hin5, hF⟩ := gd_some hF
          refine mLald S hK hP ⟨rfl, by decide⟩ rfl hin5 dX7_dates_65 ?_
          refine lv_lstore (lv' := [(4, .long _), (0, .ref _), (1, .int _), (2, .int _), (3, .int _)]) hx hb dX7_dates_66 hl (by decide) rfl (fun ls hl => ?_)
          refine lv_lload hx hb dX7_dates_68 (lv_at hl 0 rfl) ?_
          refine lv_lconst (v := 0) hx hb dX7_dates_70 (by decide) ?_
          refine W.lcmp hx hb dX7_dates_71 ?_
          refine lv_if_lt (tgt := 96) hx hb dX7_dates_72 (by decide) (fun c6 => ?_) (fun c6 => ?_)
          · have hF := ite_t hF c6
            exact b96 _ ih _ _ _ _  hF H locs ls hP hD hS (lv_sub hl [1, 2, 3, 4] rfl)
          · have hF := ite_f hF c6
            refine lv_lload hx hb dX7_dates_75 (lv_at hl 0 rfl) ?_
            refine lv_ldc2 hx hb hown (hts _ q1317) dX7_dates_77 ?_
            refine W.lcmp hx hb dX7_dates_80 ?_
            refine lv_if_gt (tgt := 96) hx hb dX7_dates_81 (by decide) (fun c7 => ?_) (fun c7 => ?_)
            · have hF := ite_t hF c7
              exact b96 _ ih _ _ _ _  hF H locs ls hP hD hS (lv_sub hl [1, 2, 3, 4] rfl)
            · have hF := ite_f hF c7
              refine lv_aload_n hx hb dX7_dates_84 rfl (lv_at hl 1 rfl) ?_
              refine lv_iload_n hx hb dX7_dates_85 rfl (lv_at hl 4 rfl) ?_
              refine lv_iconst (v := 2) hx hb dX7_dates_86 (by decide) ?_
              refine lv_lload hx hb dX7_dates_87 (lv_at hl 0 rfl) ?_
              refine lv_l2i hx hb dX7_dates_89 rfl ?_
              obtain ⟨u8, e10, hF⟩ := bdV_some hF
              refine MM.callVv (m_X7_sets e10) k_X7_86 S emOK hEs hK ⟨by decide, by decide⟩ (va_recv hK hP rfl c_MO) rfl rfl hl.1 (Nat.le_of_ble_eq_true rfl) dX7_dates_90 ⟨Nat.le_refl _, Nat.le_refl _⟩ hP hD hS (fun H locs hP hD hS => ?_)
              refine lv_inc1 (k := 3) (lv' := [(2, .int _), (4, .long _), (0, .ref _), (1, .int _), (3, .int _)]) hx hb dX7_dates_93 hl rfl (by decide) rfl (fun ls hl => ?_)
              exact b96 _ ih _ _ _ _  hF H locs ls hP hD hS (lv_sub hl [2, 3, 0, 4] rfl)
  unfold F_X7_dates at hF
  have b_main : BW p l e s m below meth c 2 42 [.ref (a 0), .int x1] D (AM a) (some (.int r)) (wlM cc a u') 6 (wlM cc a u) 0 [(0, .ref (a 0)), (1, .int x1)] [] := by
    intro H locs ls hP hD hS hl
    refine lv_iload_n hx hb dX7_dates_0 rfl (lv_at hl 1 rfl) ?_
    obtain ⟨r12, u11, e13, hF⟩ := bdI_some hF
    refine MM.callSi (m_X7_isSheet e13) k_X7_287 S emOK hEs hK ⟨by decide, by decide⟩ rfl rfl hl.1 (Nat.le_of_ble_eq_true rfl) dX7_dates_1 ⟨Nat.le_refl _, Nat.le_refl _⟩ hP hD hS (fun H locs hP hD hS => ?_)
    refine lv_if_ne (tgt := 14) hx hb dX7_dates_4 (by decide) (fun c14 => ?_) (fun c14 => ?_)
    · have hF := ite_f hF c14
      refine lv_aload_n hx hb dX7_dates_14 rfl (lv_at hl 0 rfl) ?_
      refine va_get_w S hK hP _ c_MO rfl igX7 16 (by decide) q895 rfl rfl dX7_dates_15 ?_
      refine lv_iload_n hx hb dX7_dates_18 rfl (lv_at hl 1 rfl) ?_
      obtain ⟨hin15, hF⟩ := gd_some hF
      refine mIald S hK hP ⟨rfl, by decide⟩ rfl hin15 dX7_dates_19 ?_
      refine lv_if_ne (tgt := 31) hx hb dX7_dates_20 (by decide) (fun c16 => ?_) (fun c16 => ?_)
      · have hF := ite_f hF c16
        refine lv_iconst (v := 0) hx hb dX7_dates_31 (by decide) ?_
        refine lv_istore_n (lv' := [(2, .int _), (0, .ref _), (1, .int _)]) hx hb dX7_dates_32 rfl hl (by decide) rfl (fun ls hl => ?_)
        refine lv_iconst (v := 0) hx hb dX7_dates_33 (by decide) ?_
        refine lv_istore_n (lv' := [(3, .int _), (2, .int _), (0, .ref _), (1, .int _)]) hx hb dX7_dates_34 rfl hl (by decide) rfl (fun ls hl => ?_)
        exact b35 _ _ _ _ _  hF H locs ls hP hD hS (lv_sub hl [2, 3, 1, 0] rfl)
      · have hF := ite_t hF c16
        refine lv_aload_n hx hb dX7_dates_23 rfl (lv_at hl 0 rfl) ?_
        refine lv_ldcw hx hb hown (hts _ q1301) dX7_dates_24 ?_
        obtain ⟨r18, u17, e19, hF⟩ := bdI_some hF
        refine MM.callVi (m_X7_finds e19) k_X7_94 S emOK hEs hK ⟨by decide, by decide⟩ (va_recv hK hP rfl c_MO) rfl rfl hl.1 (Nat.le_of_ble_eq_true rfl) dX7_dates_27 ⟨Nat.le_refl _, Nat.le_refl _⟩ hP hD hS (fun H locs hP hD hS => ?_)
        obtain ⟨rfl, rfl⟩ := sp_eq hF
        exact retI S hr hlocks hP hD hS dX7_dates_30
    · have hF := ite_t hF c14
      refine lv_aload_n hx hb dX7_dates_7 rfl (lv_at hl 0 rfl) ?_
      refine lv_ldc hx hb hown (hts _ q966) dX7_dates_8 ?_
      obtain ⟨r21, u20, e22, hF⟩ := bdI_some hF
      refine MM.callVi (m_X7_finds e22) k_X7_94 S emOK hEs hK ⟨by decide, by decide⟩ (va_recv hK hP rfl c_MO) rfl rfl hl.1 (Nat.le_of_ble_eq_true rfl) dX7_dates_10 ⟨Nat.le_refl _, Nat.le_refl _⟩ hP hD hS (fun H locs hP hD hS => ?_)
      obtain ⟨rfl, rfl⟩ := sp_eq hF
      exact retI S hr hlocks hP hD hS dX7_dates_13
  have hl := lv_entry ([.ref (a 0), .int x1]) (n := 6) (Nat.le_of_ble_eq_true rfl)
  rw [lg_entry_eq]
  generalize (lg_sl ([.ref (a 0), .int x1]) ++ List.replicate (6 - (lg_sl ([.ref (a 0), .int x1])).length) Slot.unset).toArray = ls at hl ⊢
  exact b_main _ _ _ hP hD hS hl

set_option maxRecDepth 100000 in
set_option maxHeartbeats 4000000 in
theorem m_X7_show  {x1 : Int32} {u u' : Mem} {r : Int32}  (hF : F_X7_show  u x1 = some (r, u')) : MR l D cc a yX7_show cX7_show 3 (some .int) 3 67 [.ref (a 0), .int x1] u (some (.int r)) u' := by
  refine MM.ofW (by decide) (fun p e s m below meth c S hr hlocks hK hEs hP hD hS => ?_)
  have S : CallFix p m c cX7_show 3 s _ gtbl RX7 := S
  obtain ⟨hx, hb, hml, hown, hts⟩ := id S
  have b84 : ∀  (u : Mem) (v2 : Int32) , F_X7_show_84  u v2 = some (r, u') → BW p l e s m below meth c 3 67 [.ref (a 0), .int x1] D (AM a) (some (.int r)) (wlM cc a u') 3 (wlM cc a u) 84 [(2, .int v2)] [] := by
    intro  u v2 hF H locs ls hP hD hS hl
    unfold F_X7_show_84 at hF
    refine lv_iload_n hx hb dX7_show_84 rfl (lv_at hl 0 rfl) ?_
    obtain ⟨rfl, rfl⟩ := sp_eq hF
    exact retI S hr hlocks hP hD hS dX7_show_85
  have b33 : ∀ (n : Nat) (u : Mem) (v1 : Int32) (v2 : Int32) , F_X7_show_33  n u v1 v2 = some (r, u') → BW p l e s m below meth c 3 67 [.ref (a 0), .int x1] D (AM a) (some (.int r)) (wlM cc a u') 3 (wlM cc a u) 33 [(0, .ref (a 0)), (1, .int v1), (2, .int v2)] [] := by
    intro n
    induction n with
    | zero => intro u v1 v2 hF; cases hF
    | succ n ih =>
      intro u v1 v2 hF H locs ls hP hD hS hl
      unfold F_X7_show_33 at hF
      refine lv_iload_n hx hb dX7_show_33 rfl (lv_at hl 2 rfl) ?_
      refine lv_aload_n hx hb dX7_show_34 rfl (lv_at hl 0 rfl) ?_
      refine va_get_w S hK hP _ c_MO rfl igX7 0 (by decide) q879 rfl rfl dX7_show_35 ?_
      refine lv_iconst (v := 0) hx hb dX7_show_38 (by decide) ?_
      obtain ⟨hin1, hF⟩ := gd_some hF
      refine mIald S hK hP ⟨rfl, by decide⟩ rfl hin1 dX7_show_39 ?_
      refine lv_icmp_ge (tgt := 84) hx hb dX7_show_40 (by decide) (fun c2 => ?_) (fun c2 => ?_)
      · have hF := ite_t hF c2
        exact b84 _ _  hF H locs ls hP hD hS (lv_sub hl [2] rfl)
      · have hF := ite_f hF c2
        refine lv_iload_n hx hb dX7_show_43 rfl (lv_at hl 2 rfl) ?_
        refine lv_aload_n hx hb dX7_show_44 rfl (lv_at hl 0 rfl) ?_
        refine va_get_w S hK hP _ c_MO rfl igX7 17 (by decide) q896 rfl rfl dX7_show_45 ?_
        refine lv_iload_n hx hb dX7_show_48 rfl (lv_at hl 1 rfl) ?_
        obtain ⟨hin3, hF⟩ := gd_some hF
        refine mIald S hK hP ⟨rfl, by decide⟩ rfl hin3 dX7_show_49 ?_
        refine lv_icmp_ge (tgt := 84) hx hb dX7_show_50 (by decide) (fun c4 => ?_) (fun c4 => ?_)
        · have hF := ite_t hF c4
          exact b84 _ _  hF H locs ls hP hD hS (lv_sub hl [2] rfl)
        · have hF := ite_f hF c4
          refine lv_aload_n hx hb dX7_show_53 rfl (lv_at hl 0 rfl) ?_
          refine va_get_w S hK hP _ c_MO rfl igX7 18 (by decide) q897 rfl rfl dX7_show_54 ?_
          refine lv_bipush (v := 40) hx hb dX7_show_57 (by decide) ?_
          refine lv_iload_n hx hb dX7_show_59 rfl (lv_at hl 1 rfl) ?_
          refine lv_imul hx hb dX7_show_60 ?_
          refine lv_iload_n hx hb dX7_show_61 rfl (lv_at hl 2 rfl) ?_
          refine lv_iadd hx hb dX7_show_62 ?_
          refine lv_aload_n hx hb dX7_show_63 rfl (lv_at hl 0 rfl) ?_
          refine va_get_w S hK hP _ c_MO rfl igX7 16 (by decide) q895 rfl rfl dX7_show_64 ?_
          refine lv_iload_n hx hb dX7_show_67 rfl (lv_at hl 1 rfl) ?_
          obtain ⟨hin5, hF⟩ := gd_some hF
          refine mIald S hK hP ⟨rfl, by decide⟩ rfl hin5 dX7_show_68 ?_
          refine lv_aload_n hx hb dX7_show_69 rfl (lv_at hl 0 rfl) ?_
          refine lv_iload_n hx hb dX7_show_70 rfl (lv_at hl 2 rfl) ?_
          obtain ⟨r7, u6, e8, hF⟩ := bdL_some hF
          refine MM.callVl (m_X7_shows e8) k_X7_109 S emOK hEs hK ⟨by decide, by decide⟩ (va_recv hK hP rfl c_MO) rfl rfl hl.1 (Nat.le_of_ble_eq_true rfl) dX7_show_71 ⟨Nat.le_refl _, Nat.le_refl _⟩ hP hD hS (fun H locs hP hD hS => ?_)
          obtain ⟨r10, u9, e11, hF⟩ := bdL_some hF
          refine MM.callSl (m_X7_narrow e11) k_X7_291 S emOK hEs hK ⟨by decide, by decide⟩ rfl rfl hl.1 (Nat.le_of_ble_eq_true rfl) dX7_show_74 ⟨Nat.le_refl _, Nat.le_refl _⟩ hP hD hS (fun H locs hP hD hS => ?_)
          obtain ⟨hin12, hF⟩ := gd_some hF
          refine mLast S hK hP hD hS ⟨rfl, by decide⟩ rfl hin12 dX7_show_77 (fun H locs hP hD hS => ?_)
          refine lv_inc1 (k := 2) (lv' := [(2, .int _), (0, .ref _), (1, .int _)]) hx hb dX7_show_78 hl rfl (by decide) rfl (fun ls hl => ?_)
          refine lv_goto (tgt := 33) hx hb dX7_show_81 (by decide) ?_
          exact ih _ _ _  hF H locs ls hP hD hS (lv_sub hl [1, 2, 0] rfl)
  unfold F_X7_show at hF
  have b_main : BW p l e s m below meth c 3 67 [.ref (a 0), .int x1] D (AM a) (some (.int r)) (wlM cc a u') 3 (wlM cc a u) 0 [(0, .ref (a 0)), (1, .int x1)] [] := by
    intro H locs ls hP hD hS hl
    refine lv_iload_n hx hb dX7_show_0 rfl (lv_at hl 1 rfl) ?_
    obtain ⟨r14, u13, e15, hF⟩ := bdI_some hF
    refine MM.callSi (m_X7_isSheet e15) k_X7_287 S emOK hEs hK ⟨by decide, by decide⟩ rfl rfl hl.1 (Nat.le_of_ble_eq_true rfl) dX7_show_1 ⟨Nat.le_refl _, Nat.le_refl _⟩ hP hD hS (fun H locs hP hD hS => ?_)
    refine lv_if_ne (tgt := 14) hx hb dX7_show_4 (by decide) (fun c16 => ?_) (fun c16 => ?_)
    · have hF := ite_f hF c16
      refine lv_aload_n hx hb dX7_show_14 rfl (lv_at hl 0 rfl) ?_
      refine va_get_w S hK hP _ c_MO rfl igX7 16 (by decide) q895 rfl rfl dX7_show_15 ?_
      refine lv_iload_n hx hb dX7_show_18 rfl (lv_at hl 1 rfl) ?_
      obtain ⟨hin17, hF⟩ := gd_some hF
      refine mIald S hK hP ⟨rfl, by decide⟩ rfl hin17 dX7_show_19 ?_
      refine lv_if_ne (tgt := 31) hx hb dX7_show_20 (by decide) (fun c18 => ?_) (fun c18 => ?_)
      · have hF := ite_f hF c18
        refine lv_iconst (v := 0) hx hb dX7_show_31 (by decide) ?_
        refine lv_istore_n (lv' := [(2, .int _), (0, .ref _), (1, .int _)]) hx hb dX7_show_32 rfl hl (by decide) rfl (fun ls hl => ?_)
        exact b33 _ _ _ _  hF H locs ls hP hD hS (lv_sub hl [1, 2, 0] rfl)
      · have hF := ite_t hF c18
        refine lv_aload_n hx hb dX7_show_23 rfl (lv_at hl 0 rfl) ?_
        refine lv_ldcw hx hb hown (hts _ q1301) dX7_show_24 ?_
        obtain ⟨r20, u19, e21, hF⟩ := bdI_some hF
        refine MM.callVi (m_X7_finds e21) k_X7_94 S emOK hEs hK ⟨by decide, by decide⟩ (va_recv hK hP rfl c_MO) rfl rfl hl.1 (Nat.le_of_ble_eq_true rfl) dX7_show_27 ⟨Nat.le_refl _, Nat.le_refl _⟩ hP hD hS (fun H locs hP hD hS => ?_)
        obtain ⟨rfl, rfl⟩ := sp_eq hF
        exact retI S hr hlocks hP hD hS dX7_show_30
    · have hF := ite_t hF c16
      refine lv_aload_n hx hb dX7_show_7 rfl (lv_at hl 0 rfl) ?_
      refine lv_ldc hx hb hown (hts _ q966) dX7_show_8 ?_
      obtain ⟨r23, u22, e24, hF⟩ := bdI_some hF
      refine MM.callVi (m_X7_finds e24) k_X7_94 S emOK hEs hK ⟨by decide, by decide⟩ (va_recv hK hP rfl c_MO) rfl rfl hl.1 (Nat.le_of_ble_eq_true rfl) dX7_show_10 ⟨Nat.le_refl _, Nat.le_refl _⟩ hP hD hS (fun H locs hP hD hS => ?_)
      obtain ⟨rfl, rfl⟩ := sp_eq hF
      exact retI S hr hlocks hP hD hS dX7_show_13
  have hl := lv_entry ([.ref (a 0), .int x1]) (n := 3) (Nat.le_of_ble_eq_true rfl)
  rw [lg_entry_eq]
  generalize (lg_sl ([.ref (a 0), .int x1]) ++ List.replicate (3 - (lg_sl ([.ref (a 0), .int x1])).length) Slot.unset).toArray = ls at hl ⊢
  exact b_main _ _ _ hP hD hS hl

set_option maxRecDepth 100000 in
set_option maxHeartbeats 4000000 in
theorem m_X7_read  {x1 : Int32} {u u' : Mem} {r : Int32}  (hF : F_X7_read  u x1 = some (r, u')) : MR l D cc a yX7_read cX7_read 10 (some .int) 6 134 [.ref (a 0), .int x1] u (some (.int r)) u' := by
  refine MM.ofW (by decide) (fun p e s m below meth c S hr hlocks hK hEs hP hD hS => ?_)
  have S : CallFix p m c cX7_read 10 s _ gtbl RX7 := S
  obtain ⟨hx, hb, hml, hown, hts⟩ := id S
  have b217 : ∀  (u : Mem) (v3 : Int32) , F_X7_read_217  u v3 = some (r, u') → BW p l e s m below meth c 6 134 [.ref (a 0), .int x1] D (AM a) (some (.int r)) (wlM cc a u') 10 (wlM cc a u) 217 [(3, .int v3)] [] := by
    intro  u v3 hF H locs ls hP hD hS hl
    unfold F_X7_read_217 at hF
    refine lv_iload_n hx hb dX7_read_217 rfl (lv_at hl 0 rfl) ?_
    obtain ⟨rfl, rfl⟩ := sp_eq hF
    exact retI S hr hlocks hP hD hS dX7_read_218
  have b203 : ∀ (k42 : Mem → Int32 → Int32 → Int32 → Int32 → Option (Int32 × Mem)) (hk42 : ∀ (u : Mem) (v1 : Int32) (v2 : Int32) (v3 : Int32) (v4 : Int32) , k42 u v1 v2 v3 v4 = some (r, u') → BW p l e s m below meth c 6 134 [.ref (a 0), .int x1] D (AM a) (some (.int r)) (wlM cc a u') 10 (wlM cc a u) 42 [(0, .ref (a 0)), (1, .int v1), (2, .int v2), (3, .int v3), (4, .int v4)] []) (u : Mem) (v1 : Int32) (v2 : Int32) (v4 : Int32) (v8 : Int32) (y0 : Int32) , F_X7_read_203 k42 u v1 v2 v4 v8 y0 = some (r, u') → BW p l e s m below meth c 6 134 [.ref (a 0), .int x1] D (AM a) (some (.int r)) (wlM cc a u') 10 (wlM cc a u) 203 [(0, .ref (a 0)), (1, .int v1), (2, .int v2), (4, .int v4), (8, .int v8)] [.int y0] := by
    intro k42 hk42 u v1 v2 v4 v8 y0 hF H locs ls hP hD hS hl
    unfold F_X7_read_203 at hF
    refine lv_istore_n (lv' := [(3, .int _), (0, .ref _), (1, .int _), (2, .int _), (4, .int _), (8, .int _)]) hx hb dX7_read_203 rfl hl (by decide) rfl (fun ls hl => ?_)
    refine lv_iload_n hx hb dX7_read_204 rfl (lv_at hl 3 rfl) ?_
    refine lv_iconst (v := 1) hx hb dX7_read_205 (by decide) ?_
    refine lv_iload hx hb dX7_read_206 (lv_at hl 5 rfl) ?_
    refine lv_ishl hx hb dX7_read_208 ?_
    refine lv_ior hx hb dX7_read_209 ?_
    refine lv_istore_n (lv' := [(2, .int _), (3, .int _), (0, .ref _), (1, .int _), (4, .int _), (8, .int _)]) hx hb dX7_read_210 rfl hl (by decide) rfl (fun ls hl => ?_)
    refine lv_inc1 (k := 4) (lv' := [(4, .int _), (2, .int _), (3, .int _), (0, .ref _), (1, .int _), (8, .int _)]) hx hb dX7_read_211 hl rfl (by decide) rfl (fun ls hl => ?_)
    refine lv_goto (tgt := 42) hx hb dX7_read_214 (by decide) ?_
    exact hk42 _ _ _ _ _  hF H locs ls hP hD hS (lv_sub hl [3, 4, 1, 2, 0] rfl)
  have b182 : ∀ (k136 : Mem → Int32 → Int32 → Int32 → Int32 → Int32 → Int32 → Option (Int32 × Mem)) (hk136 : ∀ (u : Mem) (v1 : Int32) (v2 : Int32) (v4 : Int32) (v7 : Int32) (v8 : Int32) (v9 : Int32) , k136 u v1 v2 v4 v7 v8 v9 = some (r, u') → BW p l e s m below meth c 6 134 [.ref (a 0), .int x1] D (AM a) (some (.int r)) (wlM cc a u') 10 (wlM cc a u) 136 [(0, .ref (a 0)), (1, .int v1), (2, .int v2), (4, .int v4), (7, .int v7), (8, .int v8), (9, .int v9)] []) (u : Mem) (v1 : Int32) (v2 : Int32) (v4 : Int32) (v8 : Int32) (v9 : Int32) (y0 : Int32) , F_X7_read_182 k136 u v1 v2 v4 v8 v9 y0 = some (r, u') → BW p l e s m below meth c 6 134 [.ref (a 0), .int x1] D (AM a) (some (.int r)) (wlM cc a u') 10 (wlM cc a u) 182 [(0, .ref (a 0)), (1, .int v1), (2, .int v2), (4, .int v4), (8, .int v8), (9, .int v9)] [.int y0] := by
    intro k136 hk136 u v1 v2 v4 v8 v9 y0 hF H locs ls hP hD hS hl
    unfold F_X7_read_182 at hF
    refine lv_istore (lv' := [(7, .int _), (0, .ref _), (1, .int _), (2, .int _), (4, .int _), (8, .int _), (9, .int _)]) hx hb dX7_read_182 hl (by decide) rfl (fun ls hl => ?_)
    refine lv_inc1 (k := 6) (lv' := [(9, .int _), (7, .int _), (0, .ref _), (1, .int _), (2, .int _), (4, .int _), (8, .int _)]) hx hb dX7_read_184 hl rfl (by decide) rfl (fun ls hl => ?_)
    refine lv_goto (tgt := 136) hx hb dX7_read_187 (by decide) ?_
    exact hk136 _ _ _ _ _ _ _  hF H locs ls hP hD hS (lv_sub hl [2, 3, 4, 5, 1, 6, 0] rfl)
  have b177 : ∀ (k136 : Mem → Int32 → Int32 → Int32 → Int32 → Int32 → Int32 → Option (Int32 × Mem)) (hk136 : ∀ (u : Mem) (v1 : Int32) (v2 : Int32) (v4 : Int32) (v7 : Int32) (v8 : Int32) (v9 : Int32) , k136 u v1 v2 v4 v7 v8 v9 = some (r, u') → BW p l e s m below meth c 6 134 [.ref (a 0), .int x1] D (AM a) (some (.int r)) (wlM cc a u') 10 (wlM cc a u) 136 [(0, .ref (a 0)), (1, .int v1), (2, .int v2), (4, .int v4), (7, .int v7), (8, .int v8), (9, .int v9)] []) (u : Mem) (v1 : Int32) (v2 : Int32) (v4 : Int32) (v8 : Int32) (v9 : Int32) , F_X7_read_177 k136 u v1 v2 v4 v8 v9 = some (r, u') → BW p l e s m below meth c 6 134 [.ref (a 0), .int x1] D (AM a) (some (.int r)) (wlM cc a u') 10 (wlM cc a u) 177 [(0, .ref (a 0)), (1, .int v1), (2, .int v2), (4, .int v4), (8, .int v8), (9, .int v9)] [] := by
    intro k136 hk136 u v1 v2 v4 v8 v9 hF H locs ls hP hD hS hl
    unfold F_X7_read_177 at hF
    refine lv_iconst (v := 1) hx hb dX7_read_177 (by decide) ?_
    refine lv_goto (tgt := 182) hx hb dX7_read_178 (by decide) ?_
    exact b182 _ hk136 _ _ _ _ _ _ _  hF H locs ls hP hD hS (lv_sub hl [0, 1, 2, 3, 4, 5] rfl)
  have b181 : ∀ (k136 : Mem → Int32 → Int32 → Int32 → Int32 → Int32 → Int32 → Option (Int32 × Mem)) (hk136 : ∀ (u : Mem) (v1 : Int32) (v2 : Int32) (v4 : Int32) (v7 : Int32) (v8 : Int32) (v9 : Int32) , k136 u v1 v2 v4 v7 v8 v9 = some (r, u') → BW p l e s m below meth c 6 134 [.ref (a 0), .int x1] D (AM a) (some (.int r)) (wlM cc a u') 10 (wlM cc a u) 136 [(0, .ref (a 0)), (1, .int v1), (2, .int v2), (4, .int v4), (7, .int v7), (8, .int v8), (9, .int v9)] []) (u : Mem) (v1 : Int32) (v2 : Int32) (v4 : Int32) (v8 : Int32) (v9 : Int32) , F_X7_read_181 k136 u v1 v2 v4 v8 v9 = some (r, u') → BW p l e s m below meth c 6 134 [.ref (a 0), .int x1] D (AM a) (some (.int r)) (wlM cc a u') 10 (wlM cc a u) 181 [(0, .ref (a 0)), (1, .int v1), (2, .int v2), (4, .int v4), (8, .int v8), (9, .int v9)] [] := by
    intro k136 hk136 u v1 v2 v4 v8 v9 hF H locs ls hP hD hS hl
    unfold F_X7_read_181 at hF
    refine lv_iconst (v := 0) hx hb dX7_read_181 (by decide) ?_
    exact b182 _ hk136 _ _ _ _ _ _ _  hF H locs ls hP hD hS (lv_sub hl [0, 1, 2, 3, 4, 5] rfl)
  have b136 : ∀ (k42 : Mem → Int32 → Int32 → Int32 → Int32 → Option (Int32 × Mem)) (hk42 : ∀ (u : Mem) (v1 : Int32) (v2 : Int32) (v3 : Int32) (v4 : Int32) , k42 u v1 v2 v3 v4 = some (r, u') → BW p l e s m below meth c 6 134 [.ref (a 0), .int x1] D (AM a) (some (.int r)) (wlM cc a u') 10 (wlM cc a u) 42 [(0, .ref (a 0)), (1, .int v1), (2, .int v2), (3, .int v3), (4, .int v4)] []), ∀ (n : Nat) (u : Mem) (v1 : Int32) (v2 : Int32) (v4 : Int32) (v7 : Int32) (v8 : Int32) (v9 : Int32) , F_X7_read_136 k42 n u v1 v2 v4 v7 v8 v9 = some (r, u') → BW p l e s m below meth c 6 134 [.ref (a 0), .int x1] D (AM a) (some (.int r)) (wlM cc a u') 10 (wlM cc a u) 136 [(0, .ref (a 0)), (1, .int v1), (2, .int v2), (4, .int v4), (7, .int v7), (8, .int v8), (9, .int v9)] [] := by
    intro k42 hk42
    intro n
    induction n with
    | zero => intro u v1 v2 v4 v7 v8 v9 hF; cases hF
    | succ n ih =>
      intro u v1 v2 v4 v7 v8 v9 hF H locs ls hP hD hS hl
      unfold F_X7_read_136 at hF
      refine lv_iload hx hb dX7_read_136 (lv_at hl 6 rfl) ?_
      refine lv_aload_n hx hb dX7_read_138 rfl (lv_at hl 0 rfl) ?_
      refine va_get_w S hK hP _ c_MO rfl igX7 0 (by decide) q879 rfl rfl dX7_read_139 ?_
      refine lv_iconst (v := 0) hx hb dX7_read_142 (by decide) ?_
      obtain ⟨hin1, hF⟩ := gd_some hF
      refine mIald S hK hP ⟨rfl, by decide⟩ rfl hin1 dX7_read_143 ?_
      refine lv_icmp_ge (tgt := 190) hx hb dX7_read_144 (by decide) (fun c2 => ?_) (fun c2 => ?_)
      · have hF := ite_t hF c2
        refine lv_iload hx hb dX7_read_190 (lv_at hl 4 rfl) ?_
        refine lv_if_eq (tgt := 199) hx hb dX7_read_192 (by decide) (fun c3 => ?_) (fun c3 => ?_)
        · have hF := ite_t hF c3
          refine lv_iload hx hb dX7_read_199 (lv_at hl 3 rfl) ?_
          refine lv_iconst (v := 1) hx hb dX7_read_201 (by decide) ?_
          refine lv_iadd hx hb dX7_read_202 ?_
          exact b203 _ hk42 _ _ _ _ _ _  hF H locs ls hP hD hS (lv_sub hl [0, 1, 2, 3, 5] rfl)
        · have hF := ite_f hF c3
          refine lv_iconst (v := 0) hx hb dX7_read_195 (by decide) ?_
          refine lv_goto (tgt := 203) hx hb dX7_read_196 (by decide) ?_
          exact b203 _ hk42 _ _ _ _ _ _  hF H locs ls hP hD hS (lv_sub hl [0, 1, 2, 3, 5] rfl)
      · have hF := ite_f hF c2
        refine lv_iload hx hb dX7_read_147 (lv_at hl 4 rfl) ?_
        refine lv_if_eq (tgt := 181) hx hb dX7_read_149 (by decide) (fun c4 => ?_) (fun c4 => ?_)
        · have hF := ite_t hF c4
          exact b181 _ ih _ _ _ _ _ _  hF H locs ls hP hD hS (lv_sub hl [0, 1, 2, 3, 5, 6] rfl)
        · have hF := ite_f hF c4
          refine lv_iload_n hx hb dX7_read_152 rfl (lv_at hl 2 rfl) ?_
          refine lv_iload hx hb dX7_read_153 (lv_at hl 6 rfl) ?_
          obtain ⟨r6, u5, e7, hF⟩ := bdI_some hF
          refine MM.callSi (m_X7_has e7) k_X7_141 S emOK hEs hK ⟨by decide, by decide⟩ rfl rfl hl.1 (Nat.le_of_ble_eq_true rfl) dX7_read_155 ⟨Nat.le_refl _, Nat.le_refl _⟩ hP hD hS (fun H locs hP hD hS => ?_)
          refine lv_if_eq (tgt := 177) hx hb dX7_read_158 (by decide) (fun c8 => ?_) (fun c8 => ?_)
          · have hF := ite_t hF c8
            exact b177 _ ih _ _ _ _ _ _  hF H locs ls hP hD hS (lv_sub hl [0, 1, 2, 3, 5, 6] rfl)
          · have hF := ite_f hF c8
            refine lv_aload_n hx hb dX7_read_161 rfl (lv_at hl 0 rfl) ?_
            refine va_get_w S hK hP _ c_MO rfl igX7 3 (by decide) q882 rfl rfl dX7_read_162 ?_
            refine lv_bipush (v := 12) hx hb dX7_read_165 (by decide) ?_
            refine lv_iload hx hb dX7_read_167 (lv_at hl 6 rfl) ?_
            refine lv_imul hx hb dX7_read_169 ?_
            refine lv_iload hx hb dX7_read_170 (lv_at hl 5 rfl) ?_
            refine lv_iadd hx hb dX7_read_172 ?_
            obtain ⟨hin9, hF⟩ := gd_some hF
            refine mZald S hK hP ⟨rfl, by decide⟩ rfl hin9 dX7_read_173 ?_
            refine lv_if_eq (tgt := 181) hx hb dX7_read_174 (by decide) (fun c10 => ?_) (fun c10 => ?_)
            · have hF := ite_t hF c10
              exact b181 _ ih _ _ _ _ _ _  hF H locs ls hP hD hS (lv_sub hl [0, 1, 2, 3, 5, 6] rfl)
            · have hF := ite_f hF c10
              exact b177 _ ih _ _ _ _ _ _  hF H locs ls hP hD hS (lv_sub hl [0, 1, 2, 3, 5, 6] rfl)
  have b131 : ∀ (k42 : Mem → Int32 → Int32 → Int32 → Int32 → Option (Int32 × Mem)) (hk42 : ∀ (u : Mem) (v1 : Int32) (v2 : Int32) (v3 : Int32) (v4 : Int32) , k42 u v1 v2 v3 v4 = some (r, u') → BW p l e s m below meth c 6 134 [.ref (a 0), .int x1] D (AM a) (some (.int r)) (wlM cc a u') 10 (wlM cc a u) 42 [(0, .ref (a 0)), (1, .int v1), (2, .int v2), (3, .int v3), (4, .int v4)] []) (u : Mem) (v1 : Int32) (v2 : Int32) (v4 : Int32) (v8 : Int32) (y0 : Int32) , F_X7_read_131 k42 u v1 v2 v4 v8 y0 = some (r, u') → BW p l e s m below meth c 6 134 [.ref (a 0), .int x1] D (AM a) (some (.int r)) (wlM cc a u') 10 (wlM cc a u) 131 [(0, .ref (a 0)), (1, .int v1), (2, .int v2), (4, .int v4), (8, .int v8)] [.int y0] := by
    intro k42 hk42 u v1 v2 v4 v8 y0 hF H locs ls hP hD hS hl
    unfold F_X7_read_131 at hF
    refine lv_istore (lv' := [(7, .int _), (0, .ref _), (1, .int _), (2, .int _), (4, .int _), (8, .int _)]) hx hb dX7_read_131 hl (by decide) rfl (fun ls hl => ?_)
    refine lv_iconst (v := 0) hx hb dX7_read_133 (by decide) ?_
    refine lv_istore (lv' := [(9, .int _), (7, .int _), (0, .ref _), (1, .int _), (2, .int _), (4, .int _), (8, .int _)]) hx hb dX7_read_134 hl (by decide) rfl (fun ls hl => ?_)
    exact b136 _ hk42 _ _ _ _ _ _ _ _  hF H locs ls hP hD hS (lv_sub hl [2, 3, 4, 5, 1, 6, 0] rfl)
  have b130 : ∀ (k42 : Mem → Int32 → Int32 → Int32 → Int32 → Option (Int32 × Mem)) (hk42 : ∀ (u : Mem) (v1 : Int32) (v2 : Int32) (v3 : Int32) (v4 : Int32) , k42 u v1 v2 v3 v4 = some (r, u') → BW p l e s m below meth c 6 134 [.ref (a 0), .int x1] D (AM a) (some (.int r)) (wlM cc a u') 10 (wlM cc a u) 42 [(0, .ref (a 0)), (1, .int v1), (2, .int v2), (3, .int v3), (4, .int v4)] []) (u : Mem) (v1 : Int32) (v2 : Int32) (v4 : Int32) (v8 : Int32) , F_X7_read_130 k42 u v1 v2 v4 v8 = some (r, u') → BW p l e s m below meth c 6 134 [.ref (a 0), .int x1] D (AM a) (some (.int r)) (wlM cc a u') 10 (wlM cc a u) 130 [(0, .ref (a 0)), (1, .int v1), (2, .int v2), (4, .int v4), (8, .int v8)] [] := by
    intro k42 hk42 u v1 v2 v4 v8 hF H locs ls hP hD hS hl
    unfold F_X7_read_130 at hF
    refine lv_iconst (v := 0) hx hb dX7_read_130 (by decide) ?_
    exact b131 _ hk42 _ _ _ _ _ _  hF H locs ls hP hD hS (lv_sub hl [0, 1, 2, 3, 4] rfl)
  have b110 : ∀ (k42 : Mem → Int32 → Int32 → Int32 → Int32 → Option (Int32 × Mem)) (hk42 : ∀ (u : Mem) (v1 : Int32) (v2 : Int32) (v3 : Int32) (v4 : Int32) , k42 u v1 v2 v3 v4 = some (r, u') → BW p l e s m below meth c 6 134 [.ref (a 0), .int x1] D (AM a) (some (.int r)) (wlM cc a u') 10 (wlM cc a u) 42 [(0, .ref (a 0)), (1, .int v1), (2, .int v2), (3, .int v3), (4, .int v4)] []) (u : Mem) (v1 : Int32) (v2 : Int32) (v4 : Int32) (v7 : Int32) (y0 : Int32) , F_X7_read_110 k42 u v1 v2 v4 v7 y0 = some (r, u') → BW p l e s m below meth c 6 134 [.ref (a 0), .int x1] D (AM a) (some (.int r)) (wlM cc a u') 10 (wlM cc a u) 110 [(0, .ref (a 0)), (1, .int v1), (2, .int v2), (4, .int v4), (7, .int v7)] [.int y0] := by
    intro k42 hk42 u v1 v2 v4 v7 y0 hF H locs ls hP hD hS hl
    unfold F_X7_read_110 at hF
    refine lv_istore (lv' := [(8, .int _), (0, .ref _), (1, .int _), (2, .int _), (4, .int _), (7, .int _)]) hx hb dX7_read_110 hl (by decide) rfl (fun ls hl => ?_)
    refine lv_iload hx hb dX7_read_112 (lv_at hl 5 rfl) ?_
    refine lv_if_eq (tgt := 130) hx hb dX7_read_114 (by decide) (fun c11 => ?_) (fun c11 => ?_)
    · have hF := ite_t hF c11
      exact b130 _ hk42 _ _ _ _ _  hF H locs ls hP hD hS (lv_sub hl [1, 2, 3, 4, 0] rfl)
    · have hF := ite_f hF c11
      refine lv_iload_n hx hb dX7_read_117 rfl (lv_at hl 3 rfl) ?_
      refine lv_iload hx hb dX7_read_118 (lv_at hl 0 rfl) ?_
      obtain ⟨r13, u12, e14, hF⟩ := bdI_some hF
      refine MM.callSi (m_X7_has e14) k_X7_141 S emOK hEs hK ⟨by decide, by decide⟩ rfl rfl hl.1 (Nat.le_of_ble_eq_true rfl) dX7_read_120 ⟨Nat.le_refl _, Nat.le_refl _⟩ hP hD hS (fun H locs hP hD hS => ?_)
      refine lv_if_ne (tgt := 130) hx hb dX7_read_123 (by decide) (fun c15 => ?_) (fun c15 => ?_)
      · have hF := ite_f hF c15
        exact b130 _ hk42 _ _ _ _ _  hF H locs ls hP hD hS (lv_sub hl [1, 2, 3, 4, 0] rfl)
      · have hF := ite_t hF c15
        refine lv_iconst (v := 1) hx hb dX7_read_126 (by decide) ?_
        refine lv_goto (tgt := 131) hx hb dX7_read_127 (by decide) ?_
        exact b131 _ hk42 _ _ _ _ _ _  hF H locs ls hP hD hS (lv_sub hl [1, 2, 3, 4, 0] rfl)
  have b96 : ∀ (k42 : Mem → Int32 → Int32 → Int32 → Int32 → Option (Int32 × Mem)) (hk42 : ∀ (u : Mem) (v1 : Int32) (v2 : Int32) (v3 : Int32) (v4 : Int32) , k42 u v1 v2 v3 v4 = some (r, u') → BW p l e s m below meth c 6 134 [.ref (a 0), .int x1] D (AM a) (some (.int r)) (wlM cc a u') 10 (wlM cc a u) 42 [(0, .ref (a 0)), (1, .int v1), (2, .int v2), (3, .int v3), (4, .int v4)] []) (u : Mem) (v1 : Int32) (v2 : Int32) (v4 : Int32) (v5 : Int64) (y0 : Int32) , F_X7_read_96 k42 u v1 v2 v4 v5 y0 = some (r, u') → BW p l e s m below meth c 6 134 [.ref (a 0), .int x1] D (AM a) (some (.int r)) (wlM cc a u') 10 (wlM cc a u) 96 [(0, .ref (a 0)), (1, .int v1), (2, .int v2), (4, .int v4), (5, .long v5)] [.int y0] := by
    intro k42 hk42 u v1 v2 v4 v5 y0 hF H locs ls hP hD hS hl
    unfold F_X7_read_96 at hF
    refine lv_istore (lv' := [(7, .int _), (0, .ref _), (1, .int _), (2, .int _), (4, .int _), (5, .long _)]) hx hb dX7_read_96 hl (by decide) rfl (fun ls hl => ?_)
    refine lv_iload hx hb dX7_read_98 (lv_at hl 0 rfl) ?_
    refine lv_if_eq (tgt := 109) hx hb dX7_read_100 (by decide) (fun c16 => ?_) (fun c16 => ?_)
    · have hF := ite_t hF c16
      refine lv_iconst (v := 0) hx hb dX7_read_109 (by decide) ?_
      exact b110 _ hk42 _ _ _ _ _ _  hF H locs ls hP hD hS (lv_sub hl [1, 2, 3, 4, 0] rfl)
    · have hF := ite_f hF c16
      refine lv_lload hx hb dX7_read_103 (lv_at hl 5 rfl) ?_
      refine lv_l2i hx hb dX7_read_105 rfl ?_
      refine lv_goto (tgt := 110) hx hb dX7_read_106 (by decide) ?_
      exact b110 _ hk42 _ _ _ _ _ _  hF H locs ls hP hD hS (lv_sub hl [1, 2, 3, 4, 0] rfl)
  have b95 : ∀ (k42 : Mem → Int32 → Int32 → Int32 → Int32 → Option (Int32 × Mem)) (hk42 : ∀ (u : Mem) (v1 : Int32) (v2 : Int32) (v3 : Int32) (v4 : Int32) , k42 u v1 v2 v3 v4 = some (r, u') → BW p l e s m below meth c 6 134 [.ref (a 0), .int x1] D (AM a) (some (.int r)) (wlM cc a u') 10 (wlM cc a u) 42 [(0, .ref (a 0)), (1, .int v1), (2, .int v2), (3, .int v3), (4, .int v4)] []) (u : Mem) (v1 : Int32) (v2 : Int32) (v4 : Int32) (v5 : Int64) , F_X7_read_95 k42 u v1 v2 v4 v5 = some (r, u') → BW p l e s m below meth c 6 134 [.ref (a 0), .int x1] D (AM a) (some (.int r)) (wlM cc a u') 10 (wlM cc a u) 95 [(0, .ref (a 0)), (1, .int v1), (2, .int v2), (4, .int v4), (5, .long v5)] [] := by
    intro k42 hk42 u v1 v2 v4 v5 hF H locs ls hP hD hS hl
    unfold F_X7_read_95 at hF
    refine lv_iconst (v := 0) hx hb dX7_read_95 (by decide) ?_
    exact b96 _ hk42 _ _ _ _ _ _  hF H locs ls hP hD hS (lv_sub hl [0, 1, 2, 3, 4] rfl)
  have b42 : ∀ (n : Nat) (u : Mem) (v1 : Int32) (v2 : Int32) (v3 : Int32) (v4 : Int32) , F_X7_read_42  n u v1 v2 v3 v4 = some (r, u') → BW p l e s m below meth c 6 134 [.ref (a 0), .int x1] D (AM a) (some (.int r)) (wlM cc a u') 10 (wlM cc a u) 42 [(0, .ref (a 0)), (1, .int v1), (2, .int v2), (3, .int v3), (4, .int v4)] [] := by
    intro n
    induction n with
    | zero => intro u v1 v2 v3 v4 hF; cases hF
    | succ n ih =>
      intro u v1 v2 v3 v4 hF H locs ls hP hD hS hl
      unfold F_X7_read_42 at hF
      refine lv_iload hx hb dX7_read_42 (lv_at hl 4 rfl) ?_
      refine lv_aload_n hx hb dX7_read_44 rfl (lv_at hl 0 rfl) ?_
      refine va_get_w S hK hP _ c_MO rfl igX7 17 (by decide) q896 rfl rfl dX7_read_45 ?_
      refine lv_iload_n hx hb dX7_read_48 rfl (lv_at hl 1 rfl) ?_
      obtain ⟨hin17, hF⟩ := gd_some hF
      refine mIald S hK hP ⟨rfl, by decide⟩ rfl hin17 dX7_read_49 ?_
      refine lv_icmp_ge (tgt := 217) hx hb dX7_read_50 (by decide) (fun c18 => ?_) (fun c18 => ?_)
      · have hF := ite_t hF c18
        exact b217 _ _  hF H locs ls hP hD hS (lv_sub hl [3] rfl)
      · have hF := ite_f hF c18
        refine lv_iload_n hx hb dX7_read_53 rfl (lv_at hl 3 rfl) ?_
        refine lv_if_ne (tgt := 217) hx hb dX7_read_54 (by decide) (fun c19 => ?_) (fun c19 => ?_)
        · have hF := ite_f hF c19
          exact b217 _ _  hF H locs ls hP hD hS (lv_sub hl [3] rfl)
        · have hF := ite_t hF c19
          refine lv_aload_n hx hb dX7_read_57 rfl (lv_at hl 0 rfl) ?_
          refine va_get_w S hK hP _ c_MO rfl igX7 18 (by decide) q897 rfl rfl dX7_read_58 ?_
          refine lv_bipush (v := 40) hx hb dX7_read_61 (by decide) ?_
          refine lv_iload_n hx hb dX7_read_63 rfl (lv_at hl 1 rfl) ?_
          refine lv_imul hx hb dX7_read_64 ?_
          refine lv_iload hx hb dX7_read_65 (lv_at hl 4 rfl) ?_
          refine lv_iadd hx hb dX7_read_67 ?_
          obtain ⟨hin20, hF⟩ := gd_some hF
          refine mLald S hK hP ⟨rfl, by decide⟩ rfl hin20 dX7_read_68 ?_
          refine lv_lstore (lv' := [(5, .long _), (0, .ref _), (1, .int _), (2, .int _), (3, .int _), (4, .int _)]) hx hb dX7_read_69 hl (by decide) rfl (fun ls hl => ?_)
          refine lv_lload hx hb dX7_read_71 (lv_at hl 0 rfl) ?_
          refine lv_lconst (v := 0) hx hb dX7_read_73 (by decide) ?_
          refine W.lcmp hx hb dX7_read_74 ?_
          refine lv_if_lt (tgt := 95) hx hb dX7_read_75 (by decide) (fun c21 => ?_) (fun c21 => ?_)
          · have hF := ite_t hF c21
            exact b95 _ ih _ _ _ _ _  hF H locs ls hP hD hS (lv_sub hl [1, 2, 3, 5, 0] rfl)
          · have hF := ite_f hF c21
            refine lv_lload hx hb dX7_read_78 (lv_at hl 0 rfl) ?_
            refine lv_aload_n hx hb dX7_read_80 rfl (lv_at hl 1 rfl) ?_
            refine va_get_w S hK hP _ c_MO rfl igX7 0 (by decide) q879 rfl rfl dX7_read_81 ?_
            refine lv_iconst (v := 0) hx hb dX7_read_84 (by decide) ?_
            obtain ⟨hin22, hF⟩ := gd_some hF
            refine mIald S hK hP ⟨rfl, by decide⟩ rfl hin22 dX7_read_85 ?_
            refine lv_i2l hx hb dX7_read_86 rfl ?_
            refine W.lcmp hx hb dX7_read_87 ?_
            refine lv_if_ge (tgt := 95) hx hb dX7_read_88 (by decide) (fun c23 => ?_) (fun c23 => ?_)
            · have hF := ite_t hF c23
              exact b95 _ ih _ _ _ _ _  hF H locs ls hP hD hS (lv_sub hl [1, 2, 3, 5, 0] rfl)
            · have hF := ite_f hF c23
              refine lv_iconst (v := 1) hx hb dX7_read_91 (by decide) ?_
              refine lv_goto (tgt := 96) hx hb dX7_read_92 (by decide) ?_
              exact b96 _ ih _ _ _ _ _ _  hF H locs ls hP hD hS (lv_sub hl [1, 2, 3, 5, 0] rfl)
  unfold F_X7_read at hF
  have b_main : BW p l e s m below meth c 6 134 [.ref (a 0), .int x1] D (AM a) (some (.int r)) (wlM cc a u') 10 (wlM cc a u) 0 [(0, .ref (a 0)), (1, .int x1)] [] := by
    intro H locs ls hP hD hS hl
    refine lv_iload_n hx hb dX7_read_0 rfl (lv_at hl 1 rfl) ?_
    obtain ⟨r25, u24, e26, hF⟩ := bdI_some hF
    refine MM.callSi (m_X7_isSheet e26) k_X7_287 S emOK hEs hK ⟨by decide, by decide⟩ rfl rfl hl.1 (Nat.le_of_ble_eq_true rfl) dX7_read_1 ⟨Nat.le_refl _, Nat.le_refl _⟩ hP hD hS (fun H locs hP hD hS => ?_)
    refine lv_if_ne (tgt := 14) hx hb dX7_read_4 (by decide) (fun c27 => ?_) (fun c27 => ?_)
    · have hF := ite_f hF c27
      refine lv_aload_n hx hb dX7_read_14 rfl (lv_at hl 0 rfl) ?_
      refine va_get_w S hK hP _ c_MO rfl igX7 16 (by decide) q895 rfl rfl dX7_read_15 ?_
      refine lv_iload_n hx hb dX7_read_18 rfl (lv_at hl 1 rfl) ?_
      obtain ⟨hin28, hF⟩ := gd_some hF
      refine mIald S hK hP ⟨rfl, by decide⟩ rfl hin28 dX7_read_19 ?_
      refine lv_if_ne (tgt := 31) hx hb dX7_read_20 (by decide) (fun c29 => ?_) (fun c29 => ?_)
      · have hF := ite_f hF c29
        refine lv_aload_n hx hb dX7_read_31 rfl (lv_at hl 0 rfl) ?_
        obtain ⟨u30, e32, hF⟩ := bdV_some hF
        refine MM.callVv (m_X7_findCan e32) k_X7_147 S emOK hEs hK ⟨by decide, by decide⟩ (va_recv hK hP rfl c_MO) rfl rfl hl.1 (Nat.le_of_ble_eq_true rfl) dX7_read_32 ⟨Nat.le_refl _, Nat.le_refl _⟩ hP hD hS (fun H locs hP hD hS => ?_)
        refine lv_iconst (v := 0) hx hb dX7_read_35 (by decide) ?_
        refine lv_istore_n (lv' := [(2, .int _), (0, .ref _), (1, .int _)]) hx hb dX7_read_36 rfl hl (by decide) rfl (fun ls hl => ?_)
        refine lv_iconst (v := 0) hx hb dX7_read_37 (by decide) ?_
        refine lv_istore_n (lv' := [(3, .int _), (2, .int _), (0, .ref _), (1, .int _)]) hx hb dX7_read_38 rfl hl (by decide) rfl (fun ls hl => ?_)
        refine lv_iconst (v := 0) hx hb dX7_read_39 (by decide) ?_
        refine lv_istore (lv' := [(4, .int _), (3, .int _), (2, .int _), (0, .ref _), (1, .int _)]) hx hb dX7_read_40 hl (by decide) rfl (fun ls hl => ?_)
        exact b42 _ _ _ _ _ _  hF H locs ls hP hD hS (lv_sub hl [3, 4, 2, 1, 0] rfl)
      · have hF := ite_t hF c29
        refine lv_aload_n hx hb dX7_read_23 rfl (lv_at hl 0 rfl) ?_
        refine lv_ldcw hx hb hown (hts _ q1301) dX7_read_24 ?_
        obtain ⟨r34, u33, e35, hF⟩ := bdI_some hF
        refine MM.callVi (m_X7_finds e35) k_X7_94 S emOK hEs hK ⟨by decide, by decide⟩ (va_recv hK hP rfl c_MO) rfl rfl hl.1 (Nat.le_of_ble_eq_true rfl) dX7_read_27 ⟨Nat.le_refl _, Nat.le_refl _⟩ hP hD hS (fun H locs hP hD hS => ?_)
        obtain ⟨rfl, rfl⟩ := sp_eq hF
        exact retI S hr hlocks hP hD hS dX7_read_30
    · have hF := ite_t hF c27
      refine lv_aload_n hx hb dX7_read_7 rfl (lv_at hl 0 rfl) ?_
      refine lv_ldc hx hb hown (hts _ q966) dX7_read_8 ?_
      obtain ⟨r37, u36, e38, hF⟩ := bdI_some hF
      refine MM.callVi (m_X7_finds e38) k_X7_94 S emOK hEs hK ⟨by decide, by decide⟩ (va_recv hK hP rfl c_MO) rfl rfl hl.1 (Nat.le_of_ble_eq_true rfl) dX7_read_10 ⟨Nat.le_refl _, Nat.le_refl _⟩ hP hD hS (fun H locs hP hD hS => ?_)
      obtain ⟨rfl, rfl⟩ := sp_eq hF
      exact retI S hr hlocks hP hD hS dX7_read_13
  have hl := lv_entry ([.ref (a 0), .int x1]) (n := 10) (Nat.le_of_ble_eq_true rfl)
  rw [lg_entry_eq]
  generalize (lg_sl ([.ref (a 0), .int x1]) ++ List.replicate (10 - (lg_sl ([.ref (a 0), .int x1])).length) Slot.unset).toArray = ls at hl ⊢
  exact b_main _ _ _ hP hD hS hl

set_option maxRecDepth 100000 in
set_option maxHeartbeats 4000000 in
theorem m_X7_image   {u u' : Mem} {r : Int32}  (hF : F_X7_image  u  = some (r, u')) : MR l D cc a yX7_image cX7_image 1 (some .int) 1 24 [.ref (a 0)] u (some (.int r)) u' := by
  refine MM.ofW (by decide) (fun p e s m below meth c S hr hlocks hK hEs hP hD hS => ?_)
  have S : CallFix p m c cX7_image 1 s _ gtbl RX7 := S
  obtain ⟨hx, hb, hml, hown, hts⟩ := id S
  unfold F_X7_image at hF
  have b_main : BW p l e s m below meth c 1 24 [.ref (a 0)] D (AM a) (some (.int r)) (wlM cc a u') 1 (wlM cc a u) 0 [(0, .ref (a 0))] [] := by
    intro H locs ls hP hD hS hl
    refine lv_aload_n hx hb dX7_image_0 rfl (lv_at hl 0 rfl) ?_
    refine lv_iconst (v := 1) hx hb dX7_image_1 (by decide) ?_
    refine lv_aload_n hx hb dX7_image_2 rfl (lv_at hl 0 rfl) ?_
    refine va_get_w S hK hP _ c_MO rfl igX7 20 (by decide) q899 rfl rfl dX7_image_3 ?_
    refine lv_aload_n hx hb dX7_image_6 rfl (lv_at hl 0 rfl) ?_
    refine va_get_w S hK hP _ c_MO rfl igX7 22 (by decide) q901 rfl rfl dX7_image_7 ?_
    obtain ⟨u1, e3, hF⟩ := bdV_some hF
    refine MM.callVv (m_X7_moveAll ⟨rfl, by decide⟩ ⟨rfl, by decide⟩ e3) k_X7_280 S emOK hEs hK ⟨by decide, by decide⟩ (va_recv hK hP rfl c_MO) rfl rfl hl.1 (Nat.le_of_ble_eq_true rfl) dX7_image_10 ⟨Nat.le_refl _, Nat.le_refl _⟩ hP hD hS (fun H locs hP hD hS => ?_)
    refine lv_aload_n hx hb dX7_image_13 rfl (lv_at hl 0 rfl) ?_
    refine lv_iconst (v := 1) hx hb dX7_image_14 (by decide) ?_
    refine va_put_w S igX7 tyX7 tyX7_ok nmX7 hK hP hD hS _ c_MO rfl 24 (by decide) q903 rfl rfl (ty := .boolean) (tyX7_ok 24 (by decide)) (nz_ok (by decide)) (fz_ok (by decide)) (Nat.le_of_ble_eq_true rfl) (z_MO (by decide)) dX7_image_15 (fun H locs hP hD hS => ?_)
    refine lv_iconst (v := 1) hx hb dX7_image_18 (by decide) ?_
    obtain ⟨rfl, rfl⟩ := sp_eq hF
    exact retI S hr hlocks hP hD hS dX7_image_19
  have hl := lv_entry ([.ref (a 0)]) (n := 1) (Nat.le_of_ble_eq_true rfl)
  rw [lg_entry_eq]
  generalize (lg_sl ([.ref (a 0)]) ++ List.replicate (1 - (lg_sl ([.ref (a 0)])).length) Slot.unset).toArray = ls at hl ⊢
  exact b_main _ _ _ hP hD hS hl

end
