section
variable {l : Launch} {D : va_G} {cc : Nat → ClassId} {a : Nat → Nat} {tU : Nat} {adK adV : Nat → Nat}
set_option maxRecDepth 100000 in
set_option maxHeartbeats 4000000 in
theorem m_X5_isDigit  {x0 : Int32} {u u' : Mem} {r : Int32}  (hF : F_X5_isDigit  u x0 = some (r, u')) : MC l D cc a tU adK adV yX5_isDigit cX5_isDigit 1 (some .boolean) 0 0 [.int x0] u (some (.int r)) u' := by
  refine MM.ofW (by decide) (fun p e s m below meth c S hr hlocks hK hEs hP hD hS => ?_)
  have S : CallFix p m c cX5_isDigit 1 s _ gtbl RX5 := S
  obtain ⟨hx, hb, hml, hown, hts⟩ := id S
  have b17 : ∀  (u : Mem) (y0 : Int32) , F_X5_isDigit_17  u y0 = some (r, u') → BW p l e s m below meth c 0 0 [.int x0] D (AC a) (some (.int r)) (wlC cc a u') 1 (wlC cc a u) 17 [] [.int y0] := by
    intro  u y0 hF H locs ls hP hD hS hl
    unfold F_X5_isDigit_17 at hF
    obtain ⟨hz1, hF⟩ := gz_some hF
    obtain ⟨rfl, rfl⟩ := sp_eq hF
    exact retZ S hr hlocks hP hD hS hz1 dX5_isDigit_17
  have b16 : ∀  (u : Mem)  , F_X5_isDigit_16  u  = some (r, u') → BW p l e s m below meth c 0 0 [.int x0] D (AC a) (some (.int r)) (wlC cc a u') 1 (wlC cc a u) 16 [] [] := by
    intro  u  hF H locs ls hP hD hS hl
    unfold F_X5_isDigit_16 at hF
    refine lv_iconst (v := 0) hx hb dX5_isDigit_16 (by decide) ?_
    exact b17 _ _  hF H locs ls hP hD hS (lv_sub hl [] rfl)
  unfold F_X5_isDigit at hF
  have b_main : BW p l e s m below meth c 0 0 [.int x0] D (AC a) (some (.int r)) (wlC cc a u') 1 (wlC cc a u) 0 [(0, .int x0)] [] := by
    intro H locs ls hP hD hS hl
    refine lv_iload_n hx hb dX5_isDigit_0 rfl (lv_at hl 0 rfl) ?_
    refine lv_bipush (v := 48) hx hb dX5_isDigit_1 (by decide) ?_
    refine lv_icmp_lt (tgt := 16) hx hb dX5_isDigit_3 (by decide) (fun c2 => ?_) (fun c2 => ?_)
    · have hF := ite_t hF c2
      exact b16 _  hF H locs ls hP hD hS (lv_sub hl [] rfl)
    · have hF := ite_f hF c2
      refine lv_iload_n hx hb dX5_isDigit_6 rfl (lv_at hl 0 rfl) ?_
      refine lv_bipush (v := 57) hx hb dX5_isDigit_7 (by decide) ?_
      refine lv_icmp_gt (tgt := 16) hx hb dX5_isDigit_9 (by decide) (fun c3 => ?_) (fun c3 => ?_)
      · have hF := ite_t hF c3
        exact b16 _  hF H locs ls hP hD hS (lv_sub hl [] rfl)
      · have hF := ite_f hF c3
        refine lv_iconst (v := 1) hx hb dX5_isDigit_12 (by decide) ?_
        refine lv_goto (tgt := 17) hx hb dX5_isDigit_13 (by decide) ?_
        exact b17 _ _  hF H locs ls hP hD hS (lv_sub hl [] rfl)
  have hl := lv_entry ([.int x0]) (n := 1) (Nat.le_of_ble_eq_true rfl)
  rw [lg_entry_eq]
  generalize (lg_sl ([.int x0]) ++ List.replicate (1 - (lg_sl ([.int x0])).length) Slot.unset).toArray = ls at hl ⊢
  exact b_main _ _ _ hP hD hS hl

set_option maxRecDepth 100000 in
set_option maxHeartbeats 4000000 in
theorem m_X5_stepOverDigits   {u u' : Mem}  (hF : F_X5_stepOverDigits  u  = some u') : MC l D cc a tU adK adV yX5_stepOverDigits cX5_stepOverDigits 1 none 1 24 [.ref (a 17)] u none u' := by
  refine MM.ofW (by decide) (fun p e s m below meth c S hr hlocks hK hEs hP hD hS => ?_)
  have S : CallFix p m c cX5_stepOverDigits 1 s _ gtbl RX5 := S
  obtain ⟨hx, hb, hml, hown, hts⟩ := id S
  have b76 : ∀  (u : Mem)  , F_X5_stepOverDigits_76  u  = some u' → BW p l e s m below meth c 1 24 [.ref (a 17)] D (AC a) none (wlC cc a u') 1 (wlC cc a u) 76 [] [] := by
    intro  u  hF H locs ls hP hD hS hl
    unfold F_X5_stepOverDigits_76 at hF
    obtain rfl := sv_eq hF
    exact retV S hr hlocks hP hD hS dX5_stepOverDigits_76
  have b0 : ∀ (n : Nat) (u : Mem)  , F_X5_stepOverDigits_0  n u  = some u' → BW p l e s m below meth c 1 24 [.ref (a 17)] D (AC a) none (wlC cc a u') 1 (wlC cc a u) 0 [(0, .ref (a 17))] [] := by
    intro n
    induction n with
    | zero => intro u  hF; cases hF
    | succ n ih =>
      intro u  hF H locs ls hP hD hS hl
      unfold F_X5_stepOverDigits_0 at hF
      refine lv_aload_n hx hb dX5_stepOverDigits_0 rfl (lv_at hl 0 rfl) ?_
      refine va_get_w S hK hP _ c_TR rfl igX5 5 (by decide) q221 rfl rfl dX5_stepOverDigits_1 ?_
      refine lv_aload_n hx hb dX5_stepOverDigits_4 rfl (lv_at hl 0 rfl) ?_
      refine va_get_w S hK hP _ c_TR rfl igX5 0 (by decide) q216 rfl rfl dX5_stepOverDigits_5 ?_
      refine va_get_w S hK hP _ c_TA rfl igX4 1 (by decide) q201 rfl rfl dX5_stepOverDigits_8 ?_
      refine lv_icmp_ge (tgt := 76) hx hb dX5_stepOverDigits_11 (by decide) (fun c1 => ?_) (fun c1 => ?_)
      · have hF := ite_t hF c1
        exact b76 _  hF H locs ls hP hD hS (lv_sub hl [] rfl)
      · have hF := ite_f hF c1
        refine lv_aload_n hx hb dX5_stepOverDigits_14 rfl (lv_at hl 0 rfl) ?_
        refine va_get_w S hK hP _ c_TR rfl igX5 0 (by decide) q216 rfl rfl dX5_stepOverDigits_15 ?_
        refine lv_aload_n hx hb dX5_stepOverDigits_18 rfl (lv_at hl 0 rfl) ?_
        refine va_get_w S hK hP _ c_TR rfl igX5 5 (by decide) q221 rfl rfl dX5_stepOverDigits_19 ?_
        obtain ⟨r3, u2, e4, hF⟩ := bdI_some hF
        refine MM.callVi (m_X4_at e4) k_X5_124 S ecOK hEs hK ⟨by decide, by decide⟩ (va_recv hK hP rfl c_TA) rfl rfl hl.1 (Nat.le_of_ble_eq_true rfl) dX5_stepOverDigits_22 ⟨Nat.le_refl _, Nat.le_refl _⟩ hP hD hS (fun H locs hP hD hS => ?_)
        obtain ⟨r6, u5, e7, hF⟩ := bdI_some hF
        refine MM.callSi (m_X5_isDigit e7) k_X5_142 S ecOK hEs hK ⟨by decide, by decide⟩ rfl rfl hl.1 (Nat.le_of_ble_eq_true rfl) dX5_stepOverDigits_25 ⟨Nat.le_refl _, Nat.le_refl _⟩ hP hD hS (fun H locs hP hD hS => ?_)
        refine lv_if_eq (tgt := 76) hx hb dX5_stepOverDigits_28 (by decide) (fun c8 => ?_) (fun c8 => ?_)
        · have hF := ite_t hF c8
          exact b76 _  hF H locs ls hP hD hS (lv_sub hl [] rfl)
        · have hF := ite_f hF c8
          refine lv_aload_n hx hb dX5_stepOverDigits_31 rfl (lv_at hl 0 rfl) ?_
          refine lv_bipush (v := 10) hx hb dX5_stepOverDigits_32 (by decide) ?_
          refine lv_aload_n hx hb dX5_stepOverDigits_34 rfl (lv_at hl 0 rfl) ?_
          refine va_get_w S hK hP _ c_TR rfl igX5 6 (by decide) q222 rfl rfl dX5_stepOverDigits_35 ?_
          refine lv_imul hx hb dX5_stepOverDigits_38 ?_
          refine lv_aload_n hx hb dX5_stepOverDigits_39 rfl (lv_at hl 0 rfl) ?_
          refine va_get_w S hK hP _ c_TR rfl igX5 0 (by decide) q216 rfl rfl dX5_stepOverDigits_40 ?_
          refine lv_aload_n hx hb dX5_stepOverDigits_43 rfl (lv_at hl 0 rfl) ?_
          refine va_get_w S hK hP _ c_TR rfl igX5 5 (by decide) q221 rfl rfl dX5_stepOverDigits_44 ?_
          obtain ⟨r10, u9, e11, hF⟩ := bdI_some hF
          refine MM.callVi (m_X4_at e11) k_X5_124 S ecOK hEs hK ⟨by decide, by decide⟩ (va_recv hK hP rfl c_TA) rfl rfl hl.1 (Nat.le_of_ble_eq_true rfl) dX5_stepOverDigits_47 ⟨Nat.le_refl _, Nat.le_refl _⟩ hP hD hS (fun H locs hP hD hS => ?_)
          refine lv_iadd hx hb dX5_stepOverDigits_50 ?_
          refine lv_bipush (v := 48) hx hb dX5_stepOverDigits_51 (by decide) ?_
          refine lv_isub hx hb dX5_stepOverDigits_53 ?_
          refine lv_sipush (v := 10000) hx hb dX5_stepOverDigits_54 (by decide) ?_
          refine va_mmin hx hb (hml.trans hl.1.symm) hown (hts _ q690) (hts _ q691) (hts _ q73) (hts _ q692) (by decide) (Nat.le_of_ble_eq_true rfl) (Nat.le_refl _) (Nat.le_refl _) dX5_stepOverDigits_57 ?_
          refine va_put_w S igX5 tyX5 tyX5_ok nmX5 hK hP hD hS _ c_TR rfl 6 (by decide) q222 rfl rfl (tyX5_ok 6 (by decide)) rfl rfl (Nat.le_of_ble_eq_true rfl) (z_TR (by decide)) dX5_stepOverDigits_60 (fun H locs hP hD hS => ?_)
          obtain ⟨u12, e13, hF⟩ := bdV_some hF
          obtain rfl := sv_eq e13
          refine lv_aload_n hx hb dX5_stepOverDigits_63 rfl (lv_at hl 0 rfl) ?_
          refine lv_dup hx hb dX5_stepOverDigits_64 rfl ?_
          refine va_get_w S hK hP _ c_TR rfl igX5 5 (by decide) q221 rfl rfl dX5_stepOverDigits_65 ?_
          refine lv_iconst (v := 1) hx hb dX5_stepOverDigits_68 (by decide) ?_
          refine lv_iadd hx hb dX5_stepOverDigits_69 ?_
          refine va_put_w S igX5 tyX5 tyX5_ok nmX5 hK hP hD hS _ c_TR rfl 5 (by decide) q221 rfl rfl (tyX5_ok 5 (by decide)) rfl rfl (Nat.le_of_ble_eq_true rfl) (z_TR (by decide)) dX5_stepOverDigits_70 (fun H locs hP hD hS => ?_)
          refine lv_goto (tgt := 0) hx hb dX5_stepOverDigits_73 (by decide) ?_
          exact ih _  hF H locs ls hP hD hS (lv_sub hl [0] rfl)
  unfold F_X5_stepOverDigits at hF
  have b_main : BW p l e s m below meth c 1 24 [.ref (a 17)] D (AC a) none (wlC cc a u') 1 (wlC cc a u) 0 [(0, .ref (a 17))] [] := by
    intro H locs ls hP hD hS hl
    exact b0 _ _  hF H locs ls hP hD hS (lv_sub hl [0] rfl)
  have hl := lv_entry ([.ref (a 17)]) (n := 1) (Nat.le_of_ble_eq_true rfl)
  rw [lg_entry_eq]
  generalize (lg_sl ([.ref (a 17)]) ++ List.replicate (1 - (lg_sl ([.ref (a 17)])).length) Slot.unset).toArray = ls at hl ⊢
  exact b_main _ _ _ hP hD hS hl

set_option maxRecDepth 100000 in
set_option maxHeartbeats 4000000 in
theorem m_X5_step   {u u' : Mem}  (hF : F_X5_step  u  = some u') : MC l D cc a tU adK adV yX5_step cX5_step 2 none 2 44 [.ref (a 17)] u none u' := by
  refine MM.ofW (by decide) (fun p e s m below meth c S hr hlocks hK hEs hP hD hS => ?_)
  have S : CallFix p m c cX5_step 2 s _ gtbl RX5 := S
  obtain ⟨hx, hb, hml, hown, hts⟩ := id S
  have b152 : ∀  (u : Mem)  , F_X5_step_152  u  = some u' → BW p l e s m below meth c 2 44 [.ref (a 17)] D (AC a) none (wlC cc a u') 2 (wlC cc a u) 152 [] [] := by
    intro  u  hF H locs ls hP hD hS hl
    unfold F_X5_step_152 at hF
    obtain rfl := sv_eq hF
    exact retV S hr hlocks hP hD hS dX5_step_152
  have b139 : ∀  (u : Mem) (y1 : Int32) , F_X5_step_139  u y1 = some u' → BW p l e s m below meth c 2 44 [.ref (a 17)] D (AC a) none (wlC cc a u') 2 (wlC cc a u) 139 [(0, .ref (a 17))] [.int y1, .ref (a 17)] := by
    intro  u y1 hF H locs ls hP hD hS hl
    unfold F_X5_step_139 at hF
    refine va_put_w S igX5 tyX5 tyX5_ok nmX5 hK hP hD hS _ c_TR rfl 3 (by decide) q219 rfl rfl (tyX5_ok 3 (by decide)) rfl rfl (Nat.le_of_ble_eq_true rfl) (z_TR (by decide)) dX5_step_139 (fun H locs hP hD hS => ?_)
    refine lv_aload_n hx hb dX5_step_142 rfl (lv_at hl 0 rfl) ?_
    refine lv_dup hx hb dX5_step_143 rfl ?_
    refine va_get_w S hK hP _ c_TR rfl igX5 5 (by decide) q221 rfl rfl dX5_step_144 ?_
    refine lv_iconst (v := 1) hx hb dX5_step_147 (by decide) ?_
    refine lv_iadd hx hb dX5_step_148 ?_
    refine va_put_w S igX5 tyX5 tyX5_ok nmX5 hK hP hD hS _ c_TR rfl 5 (by decide) q221 rfl rfl (tyX5_ok 5 (by decide)) rfl rfl (Nat.le_of_ble_eq_true rfl) (z_TR (by decide)) dX5_step_149 (fun H locs hP hD hS => ?_)
    exact b152 _  hF H locs ls hP hD hS (lv_sub hl [] rfl)
  have b51 : ∀  (u : Mem)  , F_X5_step_51  u  = some u' → BW p l e s m below meth c 2 44 [.ref (a 17)] D (AC a) none (wlC cc a u') 2 (wlC cc a u) 51 [(0, .ref (a 17))] [] := by
    intro  u  hF H locs ls hP hD hS hl
    unfold F_X5_step_51 at hF
    refine lv_aload_n hx hb dX5_step_51 rfl (lv_at hl 0 rfl) ?_
    refine lv_aload_n hx hb dX5_step_52 rfl (lv_at hl 0 rfl) ?_
    refine va_get_w S hK hP _ c_TR rfl igX5 4 (by decide) q220 rfl rfl dX5_step_53 ?_
    refine va_put_w S igX5 tyX5 tyX5_ok nmX5 hK hP hD hS _ c_TR rfl 5 (by decide) q221 rfl rfl (tyX5_ok 5 (by decide)) rfl rfl (Nat.le_of_ble_eq_true rfl) (z_TR (by decide)) dX5_step_56 (fun H locs hP hD hS => ?_)
    refine lv_aload_n hx hb dX5_step_59 rfl (lv_at hl 0 rfl) ?_
    refine lv_iconst (v := 0) hx hb dX5_step_60 (by decide) ?_
    refine va_put_w S igX5 tyX5 tyX5_ok nmX5 hK hP hD hS _ c_TR rfl 6 (by decide) q222 rfl rfl (tyX5_ok 6 (by decide)) rfl rfl (Nat.le_of_ble_eq_true rfl) (z_TR (by decide)) dX5_step_61 (fun H locs hP hD hS => ?_)
    refine lv_aload_n hx hb dX5_step_64 rfl (lv_at hl 0 rfl) ?_
    refine va_get_w S hK hP _ c_TR rfl igX5 0 (by decide) q216 rfl rfl dX5_step_65 ?_
    refine lv_aload_n hx hb dX5_step_68 rfl (lv_at hl 0 rfl) ?_
    refine va_get_w S hK hP _ c_TR rfl igX5 4 (by decide) q220 rfl rfl dX5_step_69 ?_
    obtain ⟨r2, u1, e3, hF⟩ := bdI_some hF
    refine MM.callVi (m_X4_at e3) k_X5_124 S ecOK hEs hK ⟨by decide, by decide⟩ (va_recv hK hP rfl c_TA) rfl rfl hl.1 (Nat.le_of_ble_eq_true rfl) dX5_step_72 ⟨Nat.le_refl _, Nat.le_refl _⟩ hP hD hS (fun H locs hP hD hS => ?_)
    refine lv_istore_n (lv' := [(1, .int _), (0, .ref _)]) hx hb dX5_step_75 rfl hl (by decide) rfl (fun ls hl => ?_)
    refine lv_iload_n hx hb dX5_step_76 rfl (lv_at hl 0 rfl) ?_
    refine lv_iconst (v := -1) hx hb dX5_step_77 (by decide) ?_
    refine lv_icmp_ne (tgt := 89) hx hb dX5_step_78 (by decide) (fun c4 => ?_) (fun c4 => ?_)
    · have hF := ite_f hF c4
      refine lv_iload_n hx hb dX5_step_89 rfl (lv_at hl 0 rfl) ?_
      obtain ⟨r6, u5, e7, hF⟩ := bdI_some hF
      refine MM.callSi (m_X5_isLetter e7) k_X5_135 S ecOK hEs hK ⟨by decide, by decide⟩ rfl rfl hl.1 (Nat.le_of_ble_eq_true rfl) dX5_step_90 ⟨Nat.le_refl _, Nat.le_refl _⟩ hP hD hS (fun H locs hP hD hS => ?_)
      refine lv_if_eq (tgt := 108) hx hb dX5_step_93 (by decide) (fun c8 => ?_) (fun c8 => ?_)
      · have hF := ite_t hF c8
        refine lv_iload_n hx hb dX5_step_108 rfl (lv_at hl 0 rfl) ?_
        obtain ⟨r10, u9, e11, hF⟩ := bdI_some hF
        refine MM.callSi (m_X5_isDigit e11) k_X5_142 S ecOK hEs hK ⟨by decide, by decide⟩ rfl rfl hl.1 (Nat.le_of_ble_eq_true rfl) dX5_step_109 ⟨Nat.le_refl _, Nat.le_refl _⟩ hP hD hS (fun H locs hP hD hS => ?_)
        refine lv_if_eq (tgt := 127) hx hb dX5_step_112 (by decide) (fun c12 => ?_) (fun c12 => ?_)
        · have hF := ite_t hF c12
          refine lv_aload_n hx hb dX5_step_127 rfl (lv_at hl 1 rfl) ?_
          refine lv_iload_n hx hb dX5_step_128 rfl (lv_at hl 0 rfl) ?_
          refine lv_bipush (v := 59) hx hb dX5_step_129 (by decide) ?_
          refine lv_icmp_ne (tgt := 138) hx hb dX5_step_131 (by decide) (fun c13 => ?_) (fun c13 => ?_)
          · have hF := ite_f hF c13
            refine lv_iconst (v := 4) hx hb dX5_step_138 (by decide) ?_
            exact b139 _ _  hF H locs ls hP hD hS (lv_sub hl [1] rfl)
          · have hF := ite_t hF c13
            refine lv_iconst (v := 3) hx hb dX5_step_134 (by decide) ?_
            refine lv_goto (tgt := 139) hx hb dX5_step_135 (by decide) ?_
            exact b139 _ _  hF H locs ls hP hD hS (lv_sub hl [1] rfl)
        · have hF := ite_f hF c12
          refine lv_aload_n hx hb dX5_step_115 rfl (lv_at hl 1 rfl) ?_
          refine lv_iconst (v := 2) hx hb dX5_step_116 (by decide) ?_
          refine va_put_w S igX5 tyX5 tyX5_ok nmX5 hK hP hD hS _ c_TR rfl 3 (by decide) q219 rfl rfl (tyX5_ok 3 (by decide)) rfl rfl (Nat.le_of_ble_eq_true rfl) (z_TR (by decide)) dX5_step_117 (fun H locs hP hD hS => ?_)
          refine lv_aload_n hx hb dX5_step_120 rfl (lv_at hl 1 rfl) ?_
          obtain ⟨u14, e16, hF⟩ := bdV_some hF
          refine MM.callVv (m_X5_stepOverDigits e16) k_X5_145 S ecOK hEs hK ⟨by decide, by decide⟩ (va_recv hK hP rfl c_TR) rfl rfl hl.1 (Nat.le_of_ble_eq_true rfl) dX5_step_121 ⟨Nat.le_refl _, Nat.le_refl _⟩ hP hD hS (fun H locs hP hD hS => ?_)
          refine lv_goto (tgt := 152) hx hb dX5_step_124 (by decide) ?_
          exact b152 _  hF H locs ls hP hD hS (lv_sub hl [] rfl)
      · have hF := ite_f hF c8
        refine lv_aload_n hx hb dX5_step_96 rfl (lv_at hl 1 rfl) ?_
        refine lv_iconst (v := 1) hx hb dX5_step_97 (by decide) ?_
        refine va_put_w S igX5 tyX5 tyX5_ok nmX5 hK hP hD hS _ c_TR rfl 3 (by decide) q219 rfl rfl (tyX5_ok 3 (by decide)) rfl rfl (Nat.le_of_ble_eq_true rfl) (z_TR (by decide)) dX5_step_98 (fun H locs hP hD hS => ?_)
        refine lv_aload_n hx hb dX5_step_101 rfl (lv_at hl 1 rfl) ?_
        obtain ⟨u17, e19, hF⟩ := bdV_some hF
        refine MM.callVv (m_X5_stepOverLetters e19) k_X5_139 S ecOK hEs hK ⟨by decide, by decide⟩ (va_recv hK hP rfl c_TR) rfl rfl hl.1 (Nat.le_of_ble_eq_true rfl) dX5_step_102 ⟨Nat.le_refl _, Nat.le_refl _⟩ hP hD hS (fun H locs hP hD hS => ?_)
        refine lv_goto (tgt := 152) hx hb dX5_step_105 (by decide) ?_
        exact b152 _  hF H locs ls hP hD hS (lv_sub hl [] rfl)
    · have hF := ite_t hF c4
      refine lv_aload_n hx hb dX5_step_81 rfl (lv_at hl 1 rfl) ?_
      refine lv_iconst (v := 0) hx hb dX5_step_82 (by decide) ?_
      refine va_put_w S igX5 tyX5 tyX5_ok nmX5 hK hP hD hS _ c_TR rfl 3 (by decide) q219 rfl rfl (tyX5_ok 3 (by decide)) rfl rfl (Nat.le_of_ble_eq_true rfl) (z_TR (by decide)) dX5_step_83 (fun H locs hP hD hS => ?_)
      refine lv_goto (tgt := 152) hx hb dX5_step_86 (by decide) ?_
      exact b152 _  hF H locs ls hP hD hS (lv_sub hl [] rfl)
  have b8 : ∀ (n : Nat) (u : Mem)  , F_X5_step_8  n u  = some u' → BW p l e s m below meth c 2 44 [.ref (a 17)] D (AC a) none (wlC cc a u') 2 (wlC cc a u) 8 [(0, .ref (a 17))] [] := by
    intro n
    induction n with
    | zero => intro u  hF; cases hF
    | succ n ih =>
      intro u  hF H locs ls hP hD hS hl
      unfold F_X5_step_8 at hF
      refine lv_aload_n hx hb dX5_step_8 rfl (lv_at hl 0 rfl) ?_
      refine va_get_w S hK hP _ c_TR rfl igX5 4 (by decide) q220 rfl rfl dX5_step_9 ?_
      refine lv_aload_n hx hb dX5_step_12 rfl (lv_at hl 0 rfl) ?_
      refine va_get_w S hK hP _ c_TR rfl igX5 0 (by decide) q216 rfl rfl dX5_step_13 ?_
      refine va_get_w S hK hP _ c_TA rfl igX4 1 (by decide) q201 rfl rfl dX5_step_16 ?_
      refine lv_icmp_ge (tgt := 51) hx hb dX5_step_19 (by decide) (fun c20 => ?_) (fun c20 => ?_)
      · have hF := ite_t hF c20
        exact b51 _  hF H locs ls hP hD hS (lv_sub hl [0] rfl)
      · have hF := ite_f hF c20
        refine lv_aload_n hx hb dX5_step_22 rfl (lv_at hl 0 rfl) ?_
        refine va_get_w S hK hP _ c_TR rfl igX5 0 (by decide) q216 rfl rfl dX5_step_23 ?_
        refine lv_aload_n hx hb dX5_step_26 rfl (lv_at hl 0 rfl) ?_
        refine va_get_w S hK hP _ c_TR rfl igX5 4 (by decide) q220 rfl rfl dX5_step_27 ?_
        obtain ⟨r22, u21, e23, hF⟩ := bdI_some hF
        refine MM.callVi (m_X4_at e23) k_X5_124 S ecOK hEs hK ⟨by decide, by decide⟩ (va_recv hK hP rfl c_TA) rfl rfl hl.1 (Nat.le_of_ble_eq_true rfl) dX5_step_30 ⟨Nat.le_refl _, Nat.le_refl _⟩ hP hD hS (fun H locs hP hD hS => ?_)
        refine lv_bipush (v := 32) hx hb dX5_step_33 (by decide) ?_
        refine lv_icmp_ne (tgt := 51) hx hb dX5_step_35 (by decide) (fun c24 => ?_) (fun c24 => ?_)
        · have hF := ite_f hF c24
          exact b51 _  hF H locs ls hP hD hS (lv_sub hl [0] rfl)
        · have hF := ite_t hF c24
          refine lv_aload_n hx hb dX5_step_38 rfl (lv_at hl 0 rfl) ?_
          refine lv_dup hx hb dX5_step_39 rfl ?_
          refine va_get_w S hK hP _ c_TR rfl igX5 4 (by decide) q220 rfl rfl dX5_step_40 ?_
          refine lv_iconst (v := 1) hx hb dX5_step_43 (by decide) ?_
          refine lv_iadd hx hb dX5_step_44 ?_
          refine va_put_w S igX5 tyX5 tyX5_ok nmX5 hK hP hD hS _ c_TR rfl 4 (by decide) q220 rfl rfl (tyX5_ok 4 (by decide)) rfl rfl (Nat.le_of_ble_eq_true rfl) (z_TR (by decide)) dX5_step_45 (fun H locs hP hD hS => ?_)
          refine lv_goto (tgt := 8) hx hb dX5_step_48 (by decide) ?_
          exact ih _  hF H locs ls hP hD hS (lv_sub hl [0] rfl)
  unfold F_X5_step at hF
  have b_main : BW p l e s m below meth c 2 44 [.ref (a 17)] D (AC a) none (wlC cc a u') 2 (wlC cc a u) 0 [(0, .ref (a 17))] [] := by
    intro H locs ls hP hD hS hl
    refine lv_aload_n hx hb dX5_step_0 rfl (lv_at hl 0 rfl) ?_
    refine lv_aload_n hx hb dX5_step_1 rfl (lv_at hl 0 rfl) ?_
    refine va_get_w S hK hP _ c_TR rfl igX5 5 (by decide) q221 rfl rfl dX5_step_2 ?_
    refine va_put_w S igX5 tyX5 tyX5_ok nmX5 hK hP hD hS _ c_TR rfl 4 (by decide) q220 rfl rfl (tyX5_ok 4 (by decide)) rfl rfl (Nat.le_of_ble_eq_true rfl) (z_TR (by decide)) dX5_step_5 (fun H locs hP hD hS => ?_)
    exact b8 _ _  hF H locs ls hP hD hS (lv_sub hl [0] rfl)
  have hl := lv_entry ([.ref (a 17)]) (n := 2) (Nat.le_of_ble_eq_true rfl)
  rw [lg_entry_eq]
  generalize (lg_sl ([.ref (a 17)]) ++ List.replicate (2 - (lg_sl ([.ref (a 17)])).length) Slot.unset).toArray = ls at hl ⊢
  exact b_main _ _ _ hP hD hS hl

set_option maxRecDepth 100000 in
set_option maxHeartbeats 4000000 in
theorem m_X5_isWord  {x1 : Nat} {u u' : Mem} {r : Int32} (hx1 : x1 < 11) (hF : F_X5_isWord  u x1 = some (r, u')) : MC l D cc a tU adK adV yX5_isWord cX5_isWord 3 (some .boolean) 5 106 [.ref (a 17), .ref (adK x1)] u (some (.int r)) u' := by
  refine MM.ofW (by decide) (fun p e s m below meth c S hr hlocks hK hEs hP hD hS => ?_)
  have S : CallFix p m c cX5_isWord 3 s _ gtbl RX5 := S
  obtain ⟨hx, hb, hml, hown, hts⟩ := id S
  have b24 : ∀  (u : Mem)  , F_X5_isWord_24  u  = some (r, u') → BW p l e s m below meth c 5 106 [.ref (a 17), .ref (adK x1)] D (AC a) (some (.int r)) (wlC cc a u') 3 (wlC cc a u) 24 [] [] := by
    intro  u  hF H locs ls hP hD hS hl
    unfold F_X5_isWord_24 at hF
    refine lv_iconst (v := 0) hx hb dX5_isWord_24 (by decide) ?_
    obtain ⟨rfl, rfl⟩ := sp_eq hF
    exact retZ S hr hlocks hP hD hS (by decide) dX5_isWord_25
  have b28 : ∀ (n : Nat) (u : Mem) (v1 : Nat) (v2 : Int32) (hv1 : v1 < 11), F_X5_isWord_28  n u v1 v2 = some (r, u') → BW p l e s m below meth c 5 106 [.ref (a 17), .ref (adK x1)] D (AC a) (some (.int r)) (wlC cc a u') 3 (wlC cc a u) 28 [(0, .ref (a 17)), (1, .ref (adK v1)), (2, .int v2)] [] := by
    intro n
    induction n with
    | zero => intro u v1 v2 hv1 hF; cases hF
    | succ n ih =>
      intro u v1 v2 hv1 hF H locs ls hP hD hS hl
      unfold F_X5_isWord_28 at hF
      refine lv_iload_n hx hb dX5_isWord_28 rfl (lv_at hl 2 rfl) ?_
      refine lv_aload_n hx hb dX5_isWord_29 rfl (lv_at hl 1 rfl) ?_
      refine MM.callVi (mS_length hv1) k_X5_119 S ecOK hEs hK ⟨by decide, by decide⟩ (vk_recv hEs.2.2.2.2.1 hv1 hS) rfl rfl hl.1 (Nat.le_of_ble_eq_true rfl) dX5_isWord_30 ⟨Nat.le_refl _, Nat.le_refl _⟩ hP hD hS (fun H locs hP hD hS => ?_)
      refine lv_icmp_ge (tgt := 65) hx hb dX5_isWord_33 (by decide) (fun c1 => ?_) (fun c1 => ?_)
      · have hF := ite_t hF c1
        refine lv_iconst (v := 1) hx hb dX5_isWord_65 (by decide) ?_
        obtain ⟨rfl, rfl⟩ := sp_eq hF
        exact retZ S hr hlocks hP hD hS (by decide) dX5_isWord_66
      · have hF := ite_f hF c1
        refine lv_aload_n hx hb dX5_isWord_36 rfl (lv_at hl 0 rfl) ?_
        refine va_get_w S hK hP _ c_TR rfl igX5 0 (by decide) q216 rfl rfl dX5_isWord_37 ?_
        refine lv_aload_n hx hb dX5_isWord_40 rfl (lv_at hl 0 rfl) ?_
        refine va_get_w S hK hP _ c_TR rfl igX5 4 (by decide) q220 rfl rfl dX5_isWord_41 ?_
        refine lv_iload_n hx hb dX5_isWord_44 rfl (lv_at hl 2 rfl) ?_
        refine lv_iadd hx hb dX5_isWord_45 ?_
        obtain ⟨r3, u2, e4, hF⟩ := bdI_some hF
        refine MM.callVi (m_X4_at e4) k_X5_124 S ecOK hEs hK ⟨by decide, by decide⟩ (va_recv hK hP rfl c_TA) rfl rfl hl.1 (Nat.le_of_ble_eq_true rfl) dX5_isWord_46 ⟨Nat.le_refl _, Nat.le_refl _⟩ hP hD hS (fun H locs hP hD hS => ?_)
        refine lv_aload_n hx hb dX5_isWord_49 rfl (lv_at hl 1 rfl) ?_
        refine lv_iload_n hx hb dX5_isWord_50 rfl (lv_at hl 2 rfl) ?_
        obtain ⟨hin5, hF⟩ := gd_some hF
        refine MM.callVi (mS_charAt hv1 hin5) k_X5_130 S ecOK hEs hK ⟨by decide, by decide⟩ (vk_recv hEs.2.2.2.2.1 hv1 hS) rfl rfl hl.1 (Nat.le_of_ble_eq_true rfl) dX5_isWord_51 ⟨Nat.le_refl _, Nat.le_refl _⟩ hP hD hS (fun H locs hP hD hS => ?_)
        refine lv_icmp_eq (tgt := 59) hx hb dX5_isWord_54 (by decide) (fun c6 => ?_) (fun c6 => ?_)
        · have hF := ite_t hF c6
          refine lv_inc1 (k := 2) (lv' := [(2, .int _), (0, .ref _), (1, .ref _)]) hx hb dX5_isWord_59 hl rfl (by decide) rfl (fun ls hl => ?_)
          refine lv_goto (tgt := 28) hx hb dX5_isWord_62 (by decide) ?_
          exact ih _ _ _ hv1 hF H locs ls hP hD hS (lv_sub hl [1, 2, 0] rfl)
        · have hF := ite_f hF c6
          refine lv_iconst (v := 0) hx hb dX5_isWord_57 (by decide) ?_
          obtain ⟨rfl, rfl⟩ := sp_eq hF
          exact retZ S hr hlocks hP hD hS (by decide) dX5_isWord_58
  unfold F_X5_isWord at hF
  have b_main : BW p l e s m below meth c 5 106 [.ref (a 17), .ref (adK x1)] D (AC a) (some (.int r)) (wlC cc a u') 3 (wlC cc a u) 0 [(0, .ref (a 17)), (1, .ref (adK x1))] [] := by
    intro H locs ls hP hD hS hl
    refine lv_aload_n hx hb dX5_isWord_0 rfl (lv_at hl 0 rfl) ?_
    refine va_get_w S hK hP _ c_TR rfl igX5 3 (by decide) q219 rfl rfl dX5_isWord_1 ?_
    refine lv_iconst (v := 1) hx hb dX5_isWord_4 (by decide) ?_
    refine lv_icmp_ne (tgt := 24) hx hb dX5_isWord_5 (by decide) (fun c7 => ?_) (fun c7 => ?_)
    · have hF := ite_f hF c7
      exact b24 _  hF H locs ls hP hD hS (lv_sub hl [] rfl)
    · have hF := ite_t hF c7
      refine lv_aload_n hx hb dX5_isWord_8 rfl (lv_at hl 0 rfl) ?_
      refine va_get_w S hK hP _ c_TR rfl igX5 5 (by decide) q221 rfl rfl dX5_isWord_9 ?_
      refine lv_aload_n hx hb dX5_isWord_12 rfl (lv_at hl 0 rfl) ?_
      refine va_get_w S hK hP _ c_TR rfl igX5 4 (by decide) q220 rfl rfl dX5_isWord_13 ?_
      refine lv_isub hx hb dX5_isWord_16 ?_
      refine lv_aload_n hx hb dX5_isWord_17 rfl (lv_at hl 1 rfl) ?_
      refine MM.callVi (mS_length hx1) k_X5_119 S ecOK hEs hK ⟨by decide, by decide⟩ (vk_recv hEs.2.2.2.2.1 hx1 hS) rfl rfl hl.1 (Nat.le_of_ble_eq_true rfl) dX5_isWord_18 ⟨Nat.le_refl _, Nat.le_refl _⟩ hP hD hS (fun H locs hP hD hS => ?_)
      refine lv_icmp_eq (tgt := 26) hx hb dX5_isWord_21 (by decide) (fun c8 => ?_) (fun c8 => ?_)
      · have hF := ite_t hF c8
        refine lv_iconst (v := 0) hx hb dX5_isWord_26 (by decide) ?_
        refine lv_istore_n (lv' := [(2, .int _), (0, .ref _), (1, .ref _)]) hx hb dX5_isWord_27 rfl hl (by decide) rfl (fun ls hl => ?_)
        exact b28 _ _ _ _ hx1 hF H locs ls hP hD hS (lv_sub hl [1, 2, 0] rfl)
      · have hF := ite_f hF c8
        exact b24 _  hF H locs ls hP hD hS (lv_sub hl [] rfl)
  have hl := lv_entry ([.ref (a 17), .ref (adK x1)]) (n := 3) (Nat.le_of_ble_eq_true rfl)
  rw [lg_entry_eq]
  generalize (lg_sl ([.ref (a 17), .ref (adK x1)]) ++ List.replicate (3 - (lg_sl ([.ref (a 17), .ref (adK x1)])).length) Slot.unset).toArray = ls at hl ⊢
  exact b_main _ _ _ hP hD hS hl

set_option maxRecDepth 100000 in
set_option maxHeartbeats 4000000 in
theorem m_X5_isNumber  {x1 : Int32} {x2 : Int32} {u u' : Mem} {r : Int32}  (hF : F_X5_isNumber  u x1 x2 = some (r, u')) : MC l D cc a tU adK adV yX5_isNumber cX5_isNumber 3 (some .boolean) 0 0 [.ref (a 17), .int x1, .int x2] u (some (.int r)) u' := by
  refine MM.ofW (by decide) (fun p e s m below meth c S hr hlocks hK hEs hP hD hS => ?_)
  have S : CallFix p m c cX5_isNumber 3 s _ gtbl RX5 := S
  obtain ⟨hx, hb, hml, hown, hts⟩ := id S
  have b29 : ∀  (u : Mem) (y0 : Int32) , F_X5_isNumber_29  u y0 = some (r, u') → BW p l e s m below meth c 0 0 [.ref (a 17), .int x1, .int x2] D (AC a) (some (.int r)) (wlC cc a u') 3 (wlC cc a u) 29 [] [.int y0] := by
    intro  u y0 hF H locs ls hP hD hS hl
    unfold F_X5_isNumber_29 at hF
    obtain ⟨hz1, hF⟩ := gz_some hF
    obtain ⟨rfl, rfl⟩ := sp_eq hF
    exact retZ S hr hlocks hP hD hS hz1 dX5_isNumber_29
  have b28 : ∀  (u : Mem)  , F_X5_isNumber_28  u  = some (r, u') → BW p l e s m below meth c 0 0 [.ref (a 17), .int x1, .int x2] D (AC a) (some (.int r)) (wlC cc a u') 3 (wlC cc a u) 28 [] [] := by
    intro  u  hF H locs ls hP hD hS hl
    unfold F_X5_isNumber_28 at hF
    refine lv_iconst (v := 0) hx hb dX5_isNumber_28 (by decide) ?_
    exact b29 _ _  hF H locs ls hP hD hS (lv_sub hl [] rfl)
  unfold F_X5_isNumber at hF
  have b_main : BW p l e s m below meth c 0 0 [.ref (a 17), .int x1, .int x2] D (AC a) (some (.int r)) (wlC cc a u') 3 (wlC cc a u) 0 [(0, .ref (a 17)), (1, .int x1), (2, .int x2)] [] := by
    intro H locs ls hP hD hS hl
    refine lv_aload_n hx hb dX5_isNumber_0 rfl (lv_at hl 0 rfl) ?_
    refine va_get_w S hK hP _ c_TR rfl igX5 3 (by decide) q219 rfl rfl dX5_isNumber_1 ?_
    refine lv_iconst (v := 2) hx hb dX5_isNumber_4 (by decide) ?_
    refine lv_icmp_ne (tgt := 28) hx hb dX5_isNumber_5 (by decide) (fun c2 => ?_) (fun c2 => ?_)
    · have hF := ite_f hF c2
      exact b28 _  hF H locs ls hP hD hS (lv_sub hl [] rfl)
    · have hF := ite_t hF c2
      refine lv_aload_n hx hb dX5_isNumber_8 rfl (lv_at hl 0 rfl) ?_
      refine va_get_w S hK hP _ c_TR rfl igX5 6 (by decide) q222 rfl rfl dX5_isNumber_9 ?_
      refine lv_iload_n hx hb dX5_isNumber_12 rfl (lv_at hl 1 rfl) ?_
      refine lv_icmp_lt (tgt := 28) hx hb dX5_isNumber_13 (by decide) (fun c3 => ?_) (fun c3 => ?_)
      · have hF := ite_t hF c3
        exact b28 _  hF H locs ls hP hD hS (lv_sub hl [] rfl)
      · have hF := ite_f hF c3
        refine lv_aload_n hx hb dX5_isNumber_16 rfl (lv_at hl 0 rfl) ?_
        refine va_get_w S hK hP _ c_TR rfl igX5 6 (by decide) q222 rfl rfl dX5_isNumber_17 ?_
        refine lv_iload_n hx hb dX5_isNumber_20 rfl (lv_at hl 2 rfl) ?_
        refine lv_icmp_gt (tgt := 28) hx hb dX5_isNumber_21 (by decide) (fun c4 => ?_) (fun c4 => ?_)
        · have hF := ite_t hF c4
          exact b28 _  hF H locs ls hP hD hS (lv_sub hl [] rfl)
        · have hF := ite_f hF c4
          refine lv_iconst (v := 1) hx hb dX5_isNumber_24 (by decide) ?_
          refine lv_goto (tgt := 29) hx hb dX5_isNumber_25 (by decide) ?_
          exact b29 _ _  hF H locs ls hP hD hS (lv_sub hl [] rfl)
  have hl := lv_entry ([.ref (a 17), .int x1, .int x2]) (n := 3) (Nat.le_of_ble_eq_true rfl)
  rw [lg_entry_eq]
  generalize (lg_sl ([.ref (a 17), .int x1, .int x2]) ++ List.replicate (3 - (lg_sl ([.ref (a 17), .int x1, .int x2])).length) Slot.unset).toArray = ls at hl ⊢
  exact b_main _ _ _ hP hD hS hl

set_option maxRecDepth 100000 in
set_option maxHeartbeats 4000000 in
theorem m_X5_readSlack   {u u' : Mem} {r : Int32}  (hF : F_X5_readSlack  u  = some (r, u')) : MC l D cc a tU adK adV yX5_readSlack cX5_readSlack 1 (some .boolean) 3 65 [.ref (a 17)] u (some (.int r)) u' := by
  refine MM.ofW (by decide) (fun p e s m below meth c S hr hlocks hK hEs hP hD hS => ?_)
  have S : CallFix p m c cX5_readSlack 1 s _ gtbl RX5 := S
  obtain ⟨hx, hb, hml, hown, hts⟩ := id S
  unfold F_X5_readSlack at hF
  have b_main : BW p l e s m below meth c 3 65 [.ref (a 17)] D (AC a) (some (.int r)) (wlC cc a u') 1 (wlC cc a u) 0 [(0, .ref (a 17))] [] := by
    intro H locs ls hP hD hS hl
    refine lv_aload_n hx hb dX5_readSlack_0 rfl (lv_at hl 0 rfl) ?_
    refine lv_iconst (v := 0) hx hb dX5_readSlack_1 (by decide) ?_
    refine lv_sipush (v := 999) hx hb dX5_readSlack_2 (by decide) ?_
    obtain ⟨r2, u1, e3, hF⟩ := bdI_some hF
    refine MM.callVi (m_X5_isNumber e3) k_X5_76 S ecOK hEs hK ⟨by decide, by decide⟩ (va_recv hK hP rfl c_TR) rfl rfl hl.1 (Nat.le_of_ble_eq_true rfl) dX5_readSlack_5 ⟨Nat.le_refl _, Nat.le_refl _⟩ hP hD hS (fun H locs hP hD hS => ?_)
    refine lv_if_ne (tgt := 13) hx hb dX5_readSlack_8 (by decide) (fun c4 => ?_) (fun c4 => ?_)
    · have hF := ite_f hF c4
      refine lv_aload_n hx hb dX5_readSlack_13 rfl (lv_at hl 0 rfl) ?_
      refine va_get_w S hK hP _ c_TR rfl igX5 1 (by decide) q217 rfl rfl dX5_readSlack_14 ?_
      refine lv_aload_n hx hb dX5_readSlack_17 rfl (lv_at hl 0 rfl) ?_
      refine va_get_w S hK hP _ c_TR rfl igX5 6 (by decide) q222 rfl rfl dX5_readSlack_18 ?_
      refine va_put_w S igX0 tyX0 tyX0_ok nmX0 hK hP hD hS _ (c_AR ⟨by decide, by decide⟩) rfl 2 (by decide) q143 rfl rfl (tyX0_ok 2 (by decide)) rfl rfl (Nat.le_of_ble_eq_true rfl) (z_AR2 ⟨by decide, by decide⟩) dX5_readSlack_21 (fun H locs hP hD hS => ?_)
      refine lv_aload_n hx hb dX5_readSlack_24 rfl (lv_at hl 0 rfl) ?_
      obtain ⟨u5, e7, hF⟩ := bdV_some hF
      refine MM.callVv (m_X5_step e7) k_X5_33 S ecOK hEs hK ⟨by decide, by decide⟩ (va_recv hK hP rfl c_TR) rfl rfl hl.1 (Nat.le_of_ble_eq_true rfl) dX5_readSlack_25 ⟨Nat.le_refl _, Nat.le_refl _⟩ hP hD hS (fun H locs hP hD hS => ?_)
      refine lv_iconst (v := 1) hx hb dX5_readSlack_28 (by decide) ?_
      obtain ⟨rfl, rfl⟩ := sp_eq hF
      exact retZ S hr hlocks hP hD hS (by decide) dX5_readSlack_29
    · have hF := ite_t hF c4
      refine lv_iconst (v := 0) hx hb dX5_readSlack_11 (by decide) ?_
      obtain ⟨rfl, rfl⟩ := sp_eq hF
      exact retZ S hr hlocks hP hD hS (by decide) dX5_readSlack_12
  have hl := lv_entry ([.ref (a 17)]) (n := 1) (Nat.le_of_ble_eq_true rfl)
  rw [lg_entry_eq]
  generalize (lg_sl ([.ref (a 17)]) ++ List.replicate (1 - (lg_sl ([.ref (a 17)])).length) Slot.unset).toArray = ls at hl ⊢
  exact b_main _ _ _ hP hD hS hl

set_option maxRecDepth 100000 in
set_option maxHeartbeats 4000000 in
theorem m_X5_readLook   {u u' : Mem} {r : Int32}  (hF : F_X5_readLook  u  = some (r, u')) : MC l D cc a tU adK adV yX5_readLook cX5_readLook 1 (some .boolean) 3 65 [.ref (a 17)] u (some (.int r)) u' := by
  refine MM.ofW (by decide) (fun p e s m below meth c S hr hlocks hK hEs hP hD hS => ?_)
  have S : CallFix p m c cX5_readLook 1 s _ gtbl RX5 := S
  obtain ⟨hx, hb, hml, hown, hts⟩ := id S
  unfold F_X5_readLook at hF
  have b_main : BW p l e s m below meth c 3 65 [.ref (a 17)] D (AC a) (some (.int r)) (wlC cc a u') 1 (wlC cc a u) 0 [(0, .ref (a 17))] [] := by
    intro H locs ls hP hD hS hl
    refine lv_aload_n hx hb dX5_readLook_0 rfl (lv_at hl 0 rfl) ?_
    refine lv_iconst (v := 0) hx hb dX5_readLook_1 (by decide) ?_
    refine lv_aload_n hx hb dX5_readLook_2 rfl (lv_at hl 0 rfl) ?_
    refine va_get_w S hK hP _ c_TR rfl igX5 1 (by decide) q217 rfl rfl dX5_readLook_3 ?_
    refine va_get_w S hK hP _ (c_AR ⟨by decide, by decide⟩) rfl igX0 1 (by decide) q140 rfl rfl dX5_readLook_6 ?_
    refine lv_iconst (v := 1) hx hb dX5_readLook_9 (by decide) ?_
    refine lv_isub hx hb dX5_readLook_10 ?_
    obtain ⟨r2, u1, e3, hF⟩ := bdI_some hF
    refine MM.callVi (m_X5_isNumber e3) k_X5_76 S ecOK hEs hK ⟨by decide, by decide⟩ (va_recv hK hP rfl c_TR) rfl rfl hl.1 (Nat.le_of_ble_eq_true rfl) dX5_readLook_11 ⟨Nat.le_refl _, Nat.le_refl _⟩ hP hD hS (fun H locs hP hD hS => ?_)
    refine lv_if_ne (tgt := 19) hx hb dX5_readLook_14 (by decide) (fun c4 => ?_) (fun c4 => ?_)
    · have hF := ite_f hF c4
      refine lv_aload_n hx hb dX5_readLook_19 rfl (lv_at hl 0 rfl) ?_
      refine va_get_w S hK hP _ c_TR rfl igX5 1 (by decide) q217 rfl rfl dX5_readLook_20 ?_
      refine va_get_w S hK hP _ (c_AR ⟨by decide, by decide⟩) rfl igX0 0 (by decide) q136 rfl rfl dX5_readLook_23 ?_
      refine lv_aload_n hx hb dX5_readLook_26 rfl (lv_at hl 0 rfl) ?_
      refine va_get_w S hK hP _ c_TR rfl igX5 6 (by decide) q222 rfl rfl dX5_readLook_27 ?_
      obtain ⟨hin5, hF⟩ := gd_some hF
      have hp6 := r_PR (t := 1) ⟨by decide, by decide⟩ hin5
      refine cPald S hK hP ⟨by decide, by decide⟩ hin5 dX5_readLook_30 ?_
      refine lv_iconst (v := 1) hx hb dX5_readLook_31 (by decide) ?_
      refine va_put_w S igX1 tyX1 tyX1_ok nmX1 hK hP hD hS _ (c_PR hp6) rfl 3 (by decide) q116 rfl rfl (ty := .boolean) (tyX1_ok 3 (by decide)) (nz_ok (by decide)) (fz_ok (by decide)) (Nat.le_of_ble_eq_true rfl) (z_PRi hp6 (by decide)) dX5_readLook_32 (fun H locs hP hD hS => ?_)
      refine lv_aload_n hx hb dX5_readLook_35 rfl (lv_at hl 0 rfl) ?_
      obtain ⟨u7, e9, hF⟩ := bdV_some hF
      refine MM.callVv (m_X5_step e9) k_X5_33 S ecOK hEs hK ⟨by decide, by decide⟩ (va_recv hK hP rfl c_TR) rfl rfl hl.1 (Nat.le_of_ble_eq_true rfl) dX5_readLook_36 ⟨Nat.le_refl _, Nat.le_refl _⟩ hP hD hS (fun H locs hP hD hS => ?_)
      refine lv_iconst (v := 1) hx hb dX5_readLook_39 (by decide) ?_
      obtain ⟨rfl, rfl⟩ := sp_eq hF
      exact retZ S hr hlocks hP hD hS (by decide) dX5_readLook_40
    · have hF := ite_t hF c4
      refine lv_iconst (v := 0) hx hb dX5_readLook_17 (by decide) ?_
      obtain ⟨rfl, rfl⟩ := sp_eq hF
      exact retZ S hr hlocks hP hD hS (by decide) dX5_readLook_18
  have hl := lv_entry ([.ref (a 17)]) (n := 1) (Nat.le_of_ble_eq_true rfl)
  rw [lg_entry_eq]
  generalize (lg_sl ([.ref (a 17)]) ++ List.replicate (1 - (lg_sl ([.ref (a 17)])).length) Slot.unset).toArray = ls at hl ⊢
  exact b_main _ _ _ hP hD hS hl

set_option maxRecDepth 100000 in
set_option maxHeartbeats 4000000 in
theorem m_X5_kindNamed   {u u' : Mem} {r : Int32}  (hF : F_X5_kindNamed  u  = some (r, u')) : MC l D cc a tU adK adV yX5_kindNamed cX5_kindNamed 1 (some .int) 6 128 [.ref (a 17)] u (some (.int r)) u' := by
  refine MM.ofW (by decide) (fun p e s m below meth c S hr hlocks hK hEs hP hD hS => ?_)
  have S : CallFix p m c cX5_kindNamed 1 s _ gtbl RX5 := S
  obtain ⟨hx, hb, hml, hown, hts⟩ := id S
  have b69 : ∀  (u : Mem) (y0 : Int32) , F_X5_kindNamed_69  u y0 = some (r, u') → BW p l e s m below meth c 6 128 [.ref (a 17)] D (AC a) (some (.int r)) (wlC cc a u') 1 (wlC cc a u) 69 [] [.int y0] := by
    intro  u y0 hF H locs ls hP hD hS hl
    unfold F_X5_kindNamed_69 at hF
    obtain ⟨rfl, rfl⟩ := sp_eq hF
    exact retI S hr hlocks hP hD hS dX5_kindNamed_69
  unfold F_X5_kindNamed at hF
  have b_main : BW p l e s m below meth c 6 128 [.ref (a 17)] D (AC a) (some (.int r)) (wlC cc a u') 1 (wlC cc a u) 0 [(0, .ref (a 17))] [] := by
    intro H locs ls hP hD hS hl
    refine lv_aload_n hx hb dX5_kindNamed_0 rfl (lv_at hl 0 rfl) ?_
    refine va_ldcS hx hb hown (hEs.2.2.2.2.2.1 2 (by decide)) dX5_kindNamed_1 ?_
    obtain ⟨r2, u1, e3, hF⟩ := bdI_some hF
    refine MM.callVi (m_X5_isWord (by decide) e3) k_X5_48 S ecOK hEs hK ⟨by decide, by decide⟩ (va_recv hK hP rfl c_TR) rfl rfl hl.1 (Nat.le_of_ble_eq_true rfl) dX5_kindNamed_3 ⟨Nat.le_refl _, Nat.le_refl _⟩ hP hD hS (fun H locs hP hD hS => ?_)
    refine lv_if_eq (tgt := 11) hx hb dX5_kindNamed_6 (by decide) (fun c4 => ?_) (fun c4 => ?_)
    · have hF := ite_t hF c4
      refine lv_aload_n hx hb dX5_kindNamed_11 rfl (lv_at hl 0 rfl) ?_
      refine va_ldcS hx hb hown (hEs.2.2.2.2.2.1 3 (by decide)) dX5_kindNamed_12 ?_
      obtain ⟨r6, u5, e7, hF⟩ := bdI_some hF
      refine MM.callVi (m_X5_isWord (by decide) e7) k_X5_48 S ecOK hEs hK ⟨by decide, by decide⟩ (va_recv hK hP rfl c_TR) rfl rfl hl.1 (Nat.le_of_ble_eq_true rfl) dX5_kindNamed_14 ⟨Nat.le_refl _, Nat.le_refl _⟩ hP hD hS (fun H locs hP hD hS => ?_)
      refine lv_if_eq (tgt := 22) hx hb dX5_kindNamed_17 (by decide) (fun c8 => ?_) (fun c8 => ?_)
      · have hF := ite_t hF c8
        refine lv_aload_n hx hb dX5_kindNamed_22 rfl (lv_at hl 0 rfl) ?_
        refine va_ldcS hx hb hown (hEs.2.2.2.2.2.1 4 (by decide)) dX5_kindNamed_23 ?_
        obtain ⟨r10, u9, e11, hF⟩ := bdI_some hF
        refine MM.callVi (m_X5_isWord (by decide) e11) k_X5_48 S ecOK hEs hK ⟨by decide, by decide⟩ (va_recv hK hP rfl c_TR) rfl rfl hl.1 (Nat.le_of_ble_eq_true rfl) dX5_kindNamed_25 ⟨Nat.le_refl _, Nat.le_refl _⟩ hP hD hS (fun H locs hP hD hS => ?_)
        refine lv_if_eq (tgt := 33) hx hb dX5_kindNamed_28 (by decide) (fun c12 => ?_) (fun c12 => ?_)
        · have hF := ite_t hF c12
          refine lv_aload_n hx hb dX5_kindNamed_33 rfl (lv_at hl 0 rfl) ?_
          refine va_ldcS hx hb hown (hEs.2.2.2.2.2.1 5 (by decide)) dX5_kindNamed_34 ?_
          obtain ⟨r14, u13, e15, hF⟩ := bdI_some hF
          refine MM.callVi (m_X5_isWord (by decide) e15) k_X5_48 S ecOK hEs hK ⟨by decide, by decide⟩ (va_recv hK hP rfl c_TR) rfl rfl hl.1 (Nat.le_of_ble_eq_true rfl) dX5_kindNamed_36 ⟨Nat.le_refl _, Nat.le_refl _⟩ hP hD hS (fun H locs hP hD hS => ?_)
          refine lv_if_eq (tgt := 44) hx hb dX5_kindNamed_39 (by decide) (fun c16 => ?_) (fun c16 => ?_)
          · have hF := ite_t hF c16
            refine lv_aload_n hx hb dX5_kindNamed_44 rfl (lv_at hl 0 rfl) ?_
            refine va_ldcS hx hb hown (hEs.2.2.2.2.2.1 6 (by decide)) dX5_kindNamed_45 ?_
            obtain ⟨r18, u17, e19, hF⟩ := bdI_some hF
            refine MM.callVi (m_X5_isWord (by decide) e19) k_X5_48 S ecOK hEs hK ⟨by decide, by decide⟩ (va_recv hK hP rfl c_TR) rfl rfl hl.1 (Nat.le_of_ble_eq_true rfl) dX5_kindNamed_47 ⟨Nat.le_refl _, Nat.le_refl _⟩ hP hD hS (fun H locs hP hD hS => ?_)
            refine lv_if_eq (tgt := 55) hx hb dX5_kindNamed_50 (by decide) (fun c20 => ?_) (fun c20 => ?_)
            · have hF := ite_t hF c20
              refine lv_aload_n hx hb dX5_kindNamed_55 rfl (lv_at hl 0 rfl) ?_
              refine va_ldcS hx hb hown (hEs.2.2.2.2.2.1 7 (by decide)) dX5_kindNamed_56 ?_
              obtain ⟨r22, u21, e23, hF⟩ := bdI_some hF
              refine MM.callVi (m_X5_isWord (by decide) e23) k_X5_48 S ecOK hEs hK ⟨by decide, by decide⟩ (va_recv hK hP rfl c_TR) rfl rfl hl.1 (Nat.le_of_ble_eq_true rfl) dX5_kindNamed_58 ⟨Nat.le_refl _, Nat.le_refl _⟩ hP hD hS (fun H locs hP hD hS => ?_)
              refine lv_if_eq (tgt := 68) hx hb dX5_kindNamed_61 (by decide) (fun c24 => ?_) (fun c24 => ?_)
              · have hF := ite_t hF c24
                refine lv_iconst (v := -1) hx hb dX5_kindNamed_68 (by decide) ?_
                exact b69 _ _  hF H locs ls hP hD hS (lv_sub hl [] rfl)
              · have hF := ite_f hF c24
                refine lv_iconst (v := 5) hx hb dX5_kindNamed_64 (by decide) ?_
                refine lv_goto (tgt := 69) hx hb dX5_kindNamed_65 (by decide) ?_
                exact b69 _ _  hF H locs ls hP hD hS (lv_sub hl [] rfl)
            · have hF := ite_f hF c20
              refine lv_iconst (v := 4) hx hb dX5_kindNamed_53 (by decide) ?_
              obtain ⟨rfl, rfl⟩ := sp_eq hF
              exact retI S hr hlocks hP hD hS dX5_kindNamed_54
          · have hF := ite_f hF c16
            refine lv_iconst (v := 3) hx hb dX5_kindNamed_42 (by decide) ?_
            obtain ⟨rfl, rfl⟩ := sp_eq hF
            exact retI S hr hlocks hP hD hS dX5_kindNamed_43
        · have hF := ite_f hF c12
          refine lv_iconst (v := 2) hx hb dX5_kindNamed_31 (by decide) ?_
          obtain ⟨rfl, rfl⟩ := sp_eq hF
          exact retI S hr hlocks hP hD hS dX5_kindNamed_32
      · have hF := ite_f hF c8
        refine lv_iconst (v := 1) hx hb dX5_kindNamed_20 (by decide) ?_
        obtain ⟨rfl, rfl⟩ := sp_eq hF
        exact retI S hr hlocks hP hD hS dX5_kindNamed_21
    · have hF := ite_f hF c4
      refine lv_iconst (v := 0) hx hb dX5_kindNamed_9 (by decide) ?_
      obtain ⟨rfl, rfl⟩ := sp_eq hF
      exact retI S hr hlocks hP hD hS dX5_kindNamed_10
  have hl := lv_entry ([.ref (a 17)]) (n := 1) (Nat.le_of_ble_eq_true rfl)
  rw [lg_entry_eq]
  generalize (lg_sl ([.ref (a 17)]) ++ List.replicate (1 - (lg_sl ([.ref (a 17)])).length) Slot.unset).toArray = ls at hl ⊢
  exact b_main _ _ _ hP hD hS hl

set_option maxRecDepth 100000 in
set_option maxHeartbeats 4000000 in
theorem m_X5_readPrint  {x1 : Nat} {u u' : Mem} {r : Int32} (hx1 : 28 ≤ x1 ∧ x1 ≤ 63) (hF : F_X5_readPrint  u x1 = some (r, u')) : MC l D cc a tU adK adV yX5_readPrint cX5_readPrint 3 (some .boolean) 6 128 [.ref (a 17), .ref (a x1)] u (some (.int r)) u' := by
  refine MM.ofW (by decide) (fun p e s m below meth c S hr hlocks hK hEs hP hD hS => ?_)
  have S : CallFix p m c cX5_readPrint 3 s _ gtbl RX5 := S
  obtain ⟨hx, hb, hml, hown, hts⟩ := id S
  have b42 : ∀  (u : Mem)  , F_X5_readPrint_42  u  = some (r, u') → BW p l e s m below meth c 6 128 [.ref (a 17), .ref (a x1)] D (AC a) (some (.int r)) (wlC cc a u') 3 (wlC cc a u) 42 [] [] := by
    intro  u  hF H locs ls hP hD hS hl
    unfold F_X5_readPrint_42 at hF
    refine lv_iconst (v := 0) hx hb dX5_readPrint_42 (by decide) ?_
    obtain ⟨rfl, rfl⟩ := sp_eq hF
    exact retZ S hr hlocks hP hD hS (by decide) dX5_readPrint_43
  have b163 : ∀  (u : Mem)  , F_X5_readPrint_163  u  = some (r, u') → BW p l e s m below meth c 6 128 [.ref (a 17), .ref (a x1)] D (AC a) (some (.int r)) (wlC cc a u') 3 (wlC cc a u) 163 [] [] := by
    intro  u  hF H locs ls hP hD hS hl
    unfold F_X5_readPrint_163 at hF
    refine lv_iconst (v := 1) hx hb dX5_readPrint_163 (by decide) ?_
    obtain ⟨rfl, rfl⟩ := sp_eq hF
    exact retZ S hr hlocks hP hD hS (by decide) dX5_readPrint_164
  have b145 : ∀  (u : Mem) (v1 : Nat) (hv1 : 28 ≤ v1 ∧ v1 ≤ 63), F_X5_readPrint_145  u v1 = some (r, u') → BW p l e s m below meth c 6 128 [.ref (a 17), .ref (a x1)] D (AC a) (some (.int r)) (wlC cc a u') 3 (wlC cc a u) 145 [(0, .ref (a 17)), (1, .ref (a v1))] [] := by
    intro  u v1 hv1 hF H locs ls hP hD hS hl
    unfold F_X5_readPrint_145 at hF
    refine lv_aload_n hx hb dX5_readPrint_145 rfl (lv_at hl 0 rfl) ?_
    refine va_ldcS hx hb hown (hEs.2.2.2.2.2.1 10 (by decide)) dX5_readPrint_146 ?_
    obtain ⟨r2, u1, e3, hF⟩ := bdI_some hF
    refine MM.callVi (m_X5_isWord (by decide) e3) k_X5_48 S ecOK hEs hK ⟨by decide, by decide⟩ (va_recv hK hP rfl c_TR) rfl rfl hl.1 (Nat.le_of_ble_eq_true rfl) dX5_readPrint_148 ⟨Nat.le_refl _, Nat.le_refl _⟩ hP hD hS (fun H locs hP hD hS => ?_)
    refine lv_if_eq (tgt := 163) hx hb dX5_readPrint_151 (by decide) (fun c4 => ?_) (fun c4 => ?_)
    · have hF := ite_t hF c4
      exact b163 _  hF H locs ls hP hD hS (lv_sub hl [] rfl)
    · have hF := ite_f hF c4
      refine lv_aload_n hx hb dX5_readPrint_154 rfl (lv_at hl 1 rfl) ?_
      refine lv_iconst (v := 1) hx hb dX5_readPrint_155 (by decide) ?_
      refine va_put_w S igX1 tyX1 tyX1_ok nmX1 hK hP hD hS _ (c_PR hv1) rfl 3 (by decide) q116 rfl rfl (ty := .boolean) (tyX1_ok 3 (by decide)) (nz_ok (by decide)) (fz_ok (by decide)) (Nat.le_of_ble_eq_true rfl) (z_PRi hv1 (by decide)) dX5_readPrint_156 (fun H locs hP hD hS => ?_)
      refine lv_aload_n hx hb dX5_readPrint_159 rfl (lv_at hl 0 rfl) ?_
      obtain ⟨u5, e7, hF⟩ := bdV_some hF
      refine MM.callVv (m_X5_step e7) k_X5_33 S ecOK hEs hK ⟨by decide, by decide⟩ (va_recv hK hP rfl c_TR) rfl rfl hl.1 (Nat.le_of_ble_eq_true rfl) dX5_readPrint_160 ⟨Nat.le_refl _, Nat.le_refl _⟩ hP hD hS (fun H locs hP hD hS => ?_)
      exact b163 _  hF H locs ls hP hD hS (lv_sub hl [] rfl)
  have b107 : ∀  (u : Mem) (v1 : Nat) (hv1 : 28 ≤ v1 ∧ v1 ≤ 63), F_X5_readPrint_107  u v1 = some (r, u') → BW p l e s m below meth c 6 128 [.ref (a 17), .ref (a x1)] D (AC a) (some (.int r)) (wlC cc a u') 3 (wlC cc a u) 107 [(0, .ref (a 17)), (1, .ref (a v1))] [] := by
    intro  u v1 hv1 hF H locs ls hP hD hS hl
    unfold F_X5_readPrint_107 at hF
    refine lv_aload_n hx hb dX5_readPrint_107 rfl (lv_at hl 0 rfl) ?_
    refine va_ldcS hx hb hown (hEs.2.2.2.2.2.1 9 (by decide)) dX5_readPrint_108 ?_
    obtain ⟨r9, u8, e10, hF⟩ := bdI_some hF
    refine MM.callVi (m_X5_isWord (by decide) e10) k_X5_48 S ecOK hEs hK ⟨by decide, by decide⟩ (va_recv hK hP rfl c_TR) rfl rfl hl.1 (Nat.le_of_ble_eq_true rfl) dX5_readPrint_110 ⟨Nat.le_refl _, Nat.le_refl _⟩ hP hD hS (fun H locs hP hD hS => ?_)
    refine lv_if_eq (tgt := 145) hx hb dX5_readPrint_113 (by decide) (fun c11 => ?_) (fun c11 => ?_)
    · have hF := ite_t hF c11
      exact b145 _ _ hv1 hF H locs ls hP hD hS (lv_sub hl [0, 1] rfl)
    · have hF := ite_f hF c11
      refine lv_aload_n hx hb dX5_readPrint_116 rfl (lv_at hl 0 rfl) ?_
      obtain ⟨u12, e14, hF⟩ := bdV_some hF
      refine MM.callVv (m_X5_step e14) k_X5_33 S ecOK hEs hK ⟨by decide, by decide⟩ (va_recv hK hP rfl c_TR) rfl rfl hl.1 (Nat.le_of_ble_eq_true rfl) dX5_readPrint_117 ⟨Nat.le_refl _, Nat.le_refl _⟩ hP hD hS (fun H locs hP hD hS => ?_)
      refine lv_aload_n hx hb dX5_readPrint_120 rfl (lv_at hl 0 rfl) ?_
      refine lv_iconst (v := 0) hx hb dX5_readPrint_121 (by decide) ?_
      refine lv_sipush (v := 2000) hx hb dX5_readPrint_122 (by decide) ?_
      obtain ⟨r16, u15, e17, hF⟩ := bdI_some hF
      refine MM.callVi (m_X5_isNumber e17) k_X5_76 S ecOK hEs hK ⟨by decide, by decide⟩ (va_recv hK hP rfl c_TR) rfl rfl hl.1 (Nat.le_of_ble_eq_true rfl) dX5_readPrint_125 ⟨Nat.le_refl _, Nat.le_refl _⟩ hP hD hS (fun H locs hP hD hS => ?_)
      refine lv_if_ne (tgt := 133) hx hb dX5_readPrint_128 (by decide) (fun c18 => ?_) (fun c18 => ?_)
      · have hF := ite_f hF c18
        refine lv_aload_n hx hb dX5_readPrint_133 rfl (lv_at hl 1 rfl) ?_
        refine lv_aload_n hx hb dX5_readPrint_134 rfl (lv_at hl 0 rfl) ?_
        refine va_get_w S hK hP _ c_TR rfl igX5 6 (by decide) q222 rfl rfl dX5_readPrint_135 ?_
        refine va_put_w S igX1 tyX1 tyX1_ok nmX1 hK hP hD hS _ (c_PR hv1) rfl 2 (by decide) q111 rfl rfl (tyX1_ok 2 (by decide)) rfl rfl (Nat.le_of_ble_eq_true rfl) (z_PRi hv1 (by decide)) dX5_readPrint_138 (fun H locs hP hD hS => ?_)
        refine lv_aload_n hx hb dX5_readPrint_141 rfl (lv_at hl 0 rfl) ?_
        obtain ⟨u19, e21, hF⟩ := bdV_some hF
        refine MM.callVv (m_X5_step e21) k_X5_33 S ecOK hEs hK ⟨by decide, by decide⟩ (va_recv hK hP rfl c_TR) rfl rfl hl.1 (Nat.le_of_ble_eq_true rfl) dX5_readPrint_142 ⟨Nat.le_refl _, Nat.le_refl _⟩ hP hD hS (fun H locs hP hD hS => ?_)
        exact b145 _ _ hv1 hF H locs ls hP hD hS (lv_sub hl [0, 1] rfl)
      · have hF := ite_t hF c18
        refine lv_iconst (v := 0) hx hb dX5_readPrint_131 (by decide) ?_
        obtain ⟨rfl, rfl⟩ := sp_eq hF
        exact retZ S hr hlocks hP hD hS (by decide) dX5_readPrint_132
  have b69 : ∀  (u : Mem) (v1 : Nat) (hv1 : 28 ≤ v1 ∧ v1 ≤ 63), F_X5_readPrint_69  u v1 = some (r, u') → BW p l e s m below meth c 6 128 [.ref (a 17), .ref (a x1)] D (AC a) (some (.int r)) (wlC cc a u') 3 (wlC cc a u) 69 [(0, .ref (a 17)), (1, .ref (a v1))] [] := by
    intro  u v1 hv1 hF H locs ls hP hD hS hl
    unfold F_X5_readPrint_69 at hF
    refine lv_aload_n hx hb dX5_readPrint_69 rfl (lv_at hl 0 rfl) ?_
    refine va_ldcS hx hb hown (hEs.2.2.2.2.2.1 8 (by decide)) dX5_readPrint_70 ?_
    obtain ⟨r23, u22, e24, hF⟩ := bdI_some hF
    refine MM.callVi (m_X5_isWord (by decide) e24) k_X5_48 S ecOK hEs hK ⟨by decide, by decide⟩ (va_recv hK hP rfl c_TR) rfl rfl hl.1 (Nat.le_of_ble_eq_true rfl) dX5_readPrint_72 ⟨Nat.le_refl _, Nat.le_refl _⟩ hP hD hS (fun H locs hP hD hS => ?_)
    refine lv_if_eq (tgt := 107) hx hb dX5_readPrint_75 (by decide) (fun c25 => ?_) (fun c25 => ?_)
    · have hF := ite_t hF c25
      exact b107 _ _ hv1 hF H locs ls hP hD hS (lv_sub hl [0, 1] rfl)
    · have hF := ite_f hF c25
      refine lv_aload_n hx hb dX5_readPrint_78 rfl (lv_at hl 0 rfl) ?_
      obtain ⟨u26, e28, hF⟩ := bdV_some hF
      refine MM.callVv (m_X5_step e28) k_X5_33 S ecOK hEs hK ⟨by decide, by decide⟩ (va_recv hK hP rfl c_TR) rfl rfl hl.1 (Nat.le_of_ble_eq_true rfl) dX5_readPrint_79 ⟨Nat.le_refl _, Nat.le_refl _⟩ hP hD hS (fun H locs hP hD hS => ?_)
      refine lv_aload_n hx hb dX5_readPrint_82 rfl (lv_at hl 0 rfl) ?_
      refine lv_iconst (v := 1) hx hb dX5_readPrint_83 (by decide) ?_
      refine lv_sipush (v := 9999) hx hb dX5_readPrint_84 (by decide) ?_
      obtain ⟨r30, u29, e31, hF⟩ := bdI_some hF
      refine MM.callVi (m_X5_isNumber e31) k_X5_76 S ecOK hEs hK ⟨by decide, by decide⟩ (va_recv hK hP rfl c_TR) rfl rfl hl.1 (Nat.le_of_ble_eq_true rfl) dX5_readPrint_87 ⟨Nat.le_refl _, Nat.le_refl _⟩ hP hD hS (fun H locs hP hD hS => ?_)
      refine lv_if_ne (tgt := 95) hx hb dX5_readPrint_90 (by decide) (fun c32 => ?_) (fun c32 => ?_)
      · have hF := ite_f hF c32
        refine lv_aload_n hx hb dX5_readPrint_95 rfl (lv_at hl 1 rfl) ?_
        refine lv_aload_n hx hb dX5_readPrint_96 rfl (lv_at hl 0 rfl) ?_
        refine va_get_w S hK hP _ c_TR rfl igX5 6 (by decide) q222 rfl rfl dX5_readPrint_97 ?_
        refine va_put_w S igX1 tyX1 tyX1_ok nmX1 hK hP hD hS _ (c_PR hv1) rfl 1 (by decide) q107 rfl rfl (tyX1_ok 1 (by decide)) rfl rfl (Nat.le_of_ble_eq_true rfl) (z_PRi hv1 (by decide)) dX5_readPrint_100 (fun H locs hP hD hS => ?_)
        refine lv_aload_n hx hb dX5_readPrint_103 rfl (lv_at hl 0 rfl) ?_
        obtain ⟨u33, e35, hF⟩ := bdV_some hF
        refine MM.callVv (m_X5_step e35) k_X5_33 S ecOK hEs hK ⟨by decide, by decide⟩ (va_recv hK hP rfl c_TR) rfl rfl hl.1 (Nat.le_of_ble_eq_true rfl) dX5_readPrint_104 ⟨Nat.le_refl _, Nat.le_refl _⟩ hP hD hS (fun H locs hP hD hS => ?_)
        exact b107 _ _ hv1 hF H locs ls hP hD hS (lv_sub hl [0, 1] rfl)
      · have hF := ite_t hF c32
        refine lv_iconst (v := 0) hx hb dX5_readPrint_93 (by decide) ?_
        obtain ⟨rfl, rfl⟩ := sp_eq hF
        exact retZ S hr hlocks hP hD hS (by decide) dX5_readPrint_94
  have b2 : ∀ (n : Nat) (u : Mem) (v1 : Nat) (v2 : Int32) (hv1 : 28 ≤ v1 ∧ v1 ≤ 63), F_X5_readPrint_2  n u v1 v2 = some (r, u') → BW p l e s m below meth c 6 128 [.ref (a 17), .ref (a x1)] D (AC a) (some (.int r)) (wlC cc a u') 3 (wlC cc a u) 2 [(0, .ref (a 17)), (1, .ref (a v1)), (2, .int v2)] [] := by
    intro n
    induction n with
    | zero => intro u v1 v2 hv1 hF; cases hF
    | succ n ih =>
      intro u v1 v2 hv1 hF H locs ls hP hD hS hl
      unfold F_X5_readPrint_2 at hF
      refine lv_iload_n hx hb dX5_readPrint_2 rfl (lv_at hl 2 rfl) ?_
      refine lv_bipush (v := 8) hx hb dX5_readPrint_3 (by decide) ?_
      refine lv_icmp_ge (tgt := 69) hx hb dX5_readPrint_5 (by decide) (fun c36 => ?_) (fun c36 => ?_)
      · have hF := ite_t hF c36
        exact b69 _ _ hv1 hF H locs ls hP hD hS (lv_sub hl [0, 1] rfl)
      · have hF := ite_f hF c36
        refine lv_aload_n hx hb dX5_readPrint_8 rfl (lv_at hl 0 rfl) ?_
        refine va_get_w S hK hP _ c_TR rfl igX5 3 (by decide) q219 rfl rfl dX5_readPrint_9 ?_
        refine lv_iconst (v := 2) hx hb dX5_readPrint_12 (by decide) ?_
        refine lv_icmp_ne (tgt := 69) hx hb dX5_readPrint_13 (by decide) (fun c37 => ?_) (fun c37 => ?_)
        · have hF := ite_f hF c37
          exact b69 _ _ hv1 hF H locs ls hP hD hS (lv_sub hl [0, 1] rfl)
        · have hF := ite_t hF c37
          refine lv_aload_n hx hb dX5_readPrint_16 rfl (lv_at hl 0 rfl) ?_
          refine lv_iconst (v := 0) hx hb dX5_readPrint_17 (by decide) ?_
          refine lv_bipush (v := 39) hx hb dX5_readPrint_18 (by decide) ?_
          obtain ⟨r39, u38, e40, hF⟩ := bdI_some hF
          refine MM.callVi (m_X5_isNumber e40) k_X5_76 S ecOK hEs hK ⟨by decide, by decide⟩ (va_recv hK hP rfl c_TR) rfl rfl hl.1 (Nat.le_of_ble_eq_true rfl) dX5_readPrint_20 ⟨Nat.le_refl _, Nat.le_refl _⟩ hP hD hS (fun H locs hP hD hS => ?_)
          refine lv_if_eq (tgt := 42) hx hb dX5_readPrint_23 (by decide) (fun c41 => ?_) (fun c41 => ?_)
          · have hF := ite_t hF c41
            exact b42 _  hF H locs ls hP hD hS (lv_sub hl [] rfl)
          · have hF := ite_f hF c41
            refine lv_aload_n hx hb dX5_readPrint_26 rfl (lv_at hl 1 rfl) ?_
            refine va_get_w S hK hP _ (c_PR hv1) rfl igX1 4 (by decide) q121 rfl rfl dX5_readPrint_27 ?_
            refine lv_lconst (v := 1) hx hb dX5_readPrint_30 (by decide) ?_
            refine lv_aload_n hx hb dX5_readPrint_31 rfl (lv_at hl 0 rfl) ?_
            refine va_get_w S hK hP _ c_TR rfl igX5 6 (by decide) q222 rfl rfl dX5_readPrint_32 ?_
            refine lv_lshl hx hb dX5_readPrint_35 rfl ?_
            refine lv_land hx hb dX5_readPrint_36 ?_
            refine lv_lconst (v := 0) hx hb dX5_readPrint_37 (by decide) ?_
            refine W.lcmp hx hb dX5_readPrint_38 ?_
            refine lv_if_eq (tgt := 44) hx hb dX5_readPrint_39 (by decide) (fun c42 => ?_) (fun c42 => ?_)
            · have hF := ite_t hF c42
              refine lv_aload_n hx hb dX5_readPrint_44 rfl (lv_at hl 1 rfl) ?_
              refine lv_dup hx hb dX5_readPrint_45 rfl ?_
              refine va_get_w S hK hP _ (c_PR hv1) rfl igX1 4 (by decide) q121 rfl rfl dX5_readPrint_46 ?_
              refine lv_lconst (v := 1) hx hb dX5_readPrint_49 (by decide) ?_
              refine lv_aload_n hx hb dX5_readPrint_50 rfl (lv_at hl 0 rfl) ?_
              refine va_get_w S hK hP _ c_TR rfl igX5 6 (by decide) q222 rfl rfl dX5_readPrint_51 ?_
              refine lv_lshl hx hb dX5_readPrint_54 rfl ?_
              refine lv_lor hx hb dX5_readPrint_55 ?_
              refine va_put_w S igX1 tyX1 tyX1_ok nmX1 hK hP hD hS _ (c_PR hv1) rfl 4 (by decide) q121 rfl rfl (tyX1_ok 4 (by decide)) rfl rfl (Nat.le_of_ble_eq_true rfl) (z_PRl hv1) dX5_readPrint_56 (fun H locs hP hD hS => ?_)
              obtain ⟨u43, e44, hF⟩ := bdV_some hF
              obtain rfl := sv_eq e44
              refine lv_aload_n hx hb dX5_readPrint_59 rfl (lv_at hl 0 rfl) ?_
              obtain ⟨u45, e47, hF⟩ := bdV_some hF
              refine MM.callVv (m_X5_step e47) k_X5_33 S ecOK hEs hK ⟨by decide, by decide⟩ (va_recv hK hP rfl c_TR) rfl rfl hl.1 (Nat.le_of_ble_eq_true rfl) dX5_readPrint_60 ⟨Nat.le_refl _, Nat.le_refl _⟩ hP hD hS (fun H locs hP hD hS => ?_)
              refine lv_inc1 (k := 2) (lv' := [(2, .int _), (0, .ref _), (1, .ref _)]) hx hb dX5_readPrint_63 hl rfl (by decide) rfl (fun ls hl => ?_)
              refine lv_goto (tgt := 2) hx hb dX5_readPrint_66 (by decide) ?_
              exact ih _ _ _ hv1 hF H locs ls hP hD hS (lv_sub hl [1, 2, 0] rfl)
            · have hF := ite_f hF c42
              exact b42 _  hF H locs ls hP hD hS (lv_sub hl [] rfl)
  unfold F_X5_readPrint at hF
  have b_main : BW p l e s m below meth c 6 128 [.ref (a 17), .ref (a x1)] D (AC a) (some (.int r)) (wlC cc a u') 3 (wlC cc a u) 0 [(0, .ref (a 17)), (1, .ref (a x1))] [] := by
    intro H locs ls hP hD hS hl
    refine lv_iconst (v := 0) hx hb dX5_readPrint_0 (by decide) ?_
    refine lv_istore_n (lv' := [(2, .int _), (0, .ref _), (1, .ref _)]) hx hb dX5_readPrint_1 rfl hl (by decide) rfl (fun ls hl => ?_)
    exact b2 _ _ _ _ hx1 hF H locs ls hP hD hS (lv_sub hl [1, 2, 0] rfl)
  have hl := lv_entry ([.ref (a 17), .ref (a x1)]) (n := 3) (Nat.le_of_ble_eq_true rfl)
  rw [lg_entry_eq]
  generalize (lg_sl ([.ref (a 17), .ref (a x1)]) ++ List.replicate (3 - (lg_sl ([.ref (a 17), .ref (a x1)])).length) Slot.unset).toArray = ls at hl ⊢
  exact b_main _ _ _ hP hD hS hl

set_option maxRecDepth 100000 in
set_option maxHeartbeats 4000000 in
theorem m_X5_readItem   {u u' : Mem} {r : Int32}  (hF : F_X5_readItem  u  = some (r, u')) : MC l D cc a tU adK adV yX5_readItem cX5_readItem 3 (some .boolean) 7 150 [.ref (a 17)] u (some (.int r)) u' := by
  refine MM.ofW (by decide) (fun p e s m below meth c S hr hlocks hK hEs hP hD hS => ?_)
  have S : CallFix p m c cX5_readItem 3 s _ gtbl RX5 := S
  obtain ⟨hx, hb, hml, hown, hts⟩ := id S
  unfold F_X5_readItem at hF
  have b_main : BW p l e s m below meth c 7 150 [.ref (a 17)] D (AC a) (some (.int r)) (wlC cc a u') 3 (wlC cc a u) 0 [(0, .ref (a 17))] [] := by
    intro H locs ls hP hD hS hl
    refine lv_aload_n hx hb dX5_readItem_0 rfl (lv_at hl 0 rfl) ?_
    refine va_ldcS hx hb hown (hEs.2.2.2.2.2.1 0 (by decide)) dX5_readItem_1 ?_
    obtain ⟨r2, u1, e3, hF⟩ := bdI_some hF
    refine MM.callVi (m_X5_isWord (by decide) e3) k_X5_48 S ecOK hEs hK ⟨by decide, by decide⟩ (va_recv hK hP rfl c_TR) rfl rfl hl.1 (Nat.le_of_ble_eq_true rfl) dX5_readItem_3 ⟨Nat.le_refl _, Nat.le_refl _⟩ hP hD hS (fun H locs hP hD hS => ?_)
    refine lv_if_eq (tgt := 18) hx hb dX5_readItem_6 (by decide) (fun c4 => ?_) (fun c4 => ?_)
    · have hF := ite_t hF c4
      refine lv_aload_n hx hb dX5_readItem_18 rfl (lv_at hl 0 rfl) ?_
      refine va_ldcS hx hb hown (hEs.2.2.2.2.2.1 1 (by decide)) dX5_readItem_19 ?_
      obtain ⟨r6, u5, e7, hF⟩ := bdI_some hF
      refine MM.callVi (m_X5_isWord (by decide) e7) k_X5_48 S ecOK hEs hK ⟨by decide, by decide⟩ (va_recv hK hP rfl c_TR) rfl rfl hl.1 (Nat.le_of_ble_eq_true rfl) dX5_readItem_21 ⟨Nat.le_refl _, Nat.le_refl _⟩ hP hD hS (fun H locs hP hD hS => ?_)
      refine lv_if_eq (tgt := 36) hx hb dX5_readItem_24 (by decide) (fun c8 => ?_) (fun c8 => ?_)
      · have hF := ite_t hF c8
        refine lv_aload_n hx hb dX5_readItem_36 rfl (lv_at hl 0 rfl) ?_
        obtain ⟨r10, u9, e11, hF⟩ := bdI_some hF
        refine MM.callVi (m_X5_kindNamed e11) k_X5_60 S ecOK hEs hK ⟨by decide, by decide⟩ (va_recv hK hP rfl c_TR) rfl rfl hl.1 (Nat.le_of_ble_eq_true rfl) dX5_readItem_37 ⟨Nat.le_refl _, Nat.le_refl _⟩ hP hD hS (fun H locs hP hD hS => ?_)
        refine lv_istore_n (lv' := [(1, .int _), (0, .ref _)]) hx hb dX5_readItem_40 rfl hl (by decide) rfl (fun ls hl => ?_)
        refine lv_iload_n hx hb dX5_readItem_41 rfl (lv_at hl 0 rfl) ?_
        refine lv_iconst (v := -1) hx hb dX5_readItem_42 (by decide) ?_
        refine lv_icmp_ne (tgt := 48) hx hb dX5_readItem_43 (by decide) (fun c12 => ?_) (fun c12 => ?_)
        · have hF := ite_f hF c12
          refine lv_aload_n hx hb dX5_readItem_48 rfl (lv_at hl 1 rfl) ?_
          refine va_get_w S hK hP _ c_TR rfl igX5 1 (by decide) q217 rfl rfl dX5_readItem_49 ?_
          refine lv_iload_n hx hb dX5_readItem_52 rfl (lv_at hl 0 rfl) ?_
          refine lv_lconst (v := 0) hx hb dX5_readItem_53 (by decide) ?_
          obtain ⟨r14, u13, e15, hF⟩ := bdI_some hF
          refine MM.callVi (m_X0_hang ⟨by decide, by decide⟩ e15) k_X5_64 S ecOK hEs hK ⟨by decide, by decide⟩ (va_recv hK hP rfl (c_AR ⟨by decide, by decide⟩)) rfl rfl hl.1 (Nat.le_of_ble_eq_true rfl) dX5_readItem_54 ⟨Nat.le_refl _, Nat.le_refl _⟩ hP hD hS (fun H locs hP hD hS => ?_)
          refine lv_istore_n (lv' := [(2, .int _), (1, .int _), (0, .ref _)]) hx hb dX5_readItem_57 rfl hl (by decide) rfl (fun ls hl => ?_)
          refine lv_iload_n hx hb dX5_readItem_58 rfl (lv_at hl 0 rfl) ?_
          refine lv_iconst (v := -1) hx hb dX5_readItem_59 (by decide) ?_
          refine lv_icmp_ne (tgt := 65) hx hb dX5_readItem_60 (by decide) (fun c16 => ?_) (fun c16 => ?_)
          · have hF := ite_f hF c16
            refine lv_aload_n hx hb dX5_readItem_65 rfl (lv_at hl 2 rfl) ?_
            obtain ⟨u17, e19, hF⟩ := bdV_some hF
            refine MM.callVv (m_X5_step e19) k_X5_33 S ecOK hEs hK ⟨by decide, by decide⟩ (va_recv hK hP rfl c_TR) rfl rfl hl.1 (Nat.le_of_ble_eq_true rfl) dX5_readItem_66 ⟨Nat.le_refl _, Nat.le_refl _⟩ hP hD hS (fun H locs hP hD hS => ?_)
            refine lv_aload_n hx hb dX5_readItem_69 rfl (lv_at hl 2 rfl) ?_
            refine lv_aload_n hx hb dX5_readItem_70 rfl (lv_at hl 2 rfl) ?_
            refine va_get_w S hK hP _ c_TR rfl igX5 1 (by decide) q217 rfl rfl dX5_readItem_71 ?_
            refine va_get_w S hK hP _ (c_AR ⟨by decide, by decide⟩) rfl igX0 0 (by decide) q136 rfl rfl dX5_readItem_74 ?_
            refine lv_iload_n hx hb dX5_readItem_77 rfl (lv_at hl 0 rfl) ?_
            obtain ⟨hin20, hF⟩ := gd_some hF
            have hp21 := r_PR (t := 1) ⟨by decide, by decide⟩ hin20
            refine cPald S hK hP ⟨by decide, by decide⟩ hin20 dX5_readItem_78 ?_
            obtain ⟨r23, u22, e24, hF⟩ := bdI_some hF
            refine MM.callVi (m_X5_readPrint hp21 e24) k_X5_72 S ecOK hEs hK ⟨by decide, by decide⟩ (va_recv hK hP rfl c_TR) rfl rfl hl.1 (Nat.le_of_ble_eq_true rfl) dX5_readItem_79 ⟨Nat.le_refl _, Nat.le_refl _⟩ hP hD hS (fun H locs hP hD hS => ?_)
            obtain ⟨hz25, hF⟩ := gz_some hF
            obtain ⟨rfl, rfl⟩ := sp_eq hF
            exact retZ S hr hlocks hP hD hS hz25 dX5_readItem_82
          · have hF := ite_t hF c16
            refine lv_iconst (v := 0) hx hb dX5_readItem_63 (by decide) ?_
            obtain ⟨rfl, rfl⟩ := sp_eq hF
            exact retZ S hr hlocks hP hD hS (by decide) dX5_readItem_64
        · have hF := ite_t hF c12
          refine lv_iconst (v := 0) hx hb dX5_readItem_46 (by decide) ?_
          obtain ⟨rfl, rfl⟩ := sp_eq hF
          exact retZ S hr hlocks hP hD hS (by decide) dX5_readItem_47
      · have hF := ite_f hF c8
        refine lv_aload_n hx hb dX5_readItem_27 rfl (lv_at hl 0 rfl) ?_
        obtain ⟨u26, e28, hF⟩ := bdV_some hF
        refine MM.callVv (m_X5_step e28) k_X5_33 S ecOK hEs hK ⟨by decide, by decide⟩ (va_recv hK hP rfl c_TR) rfl rfl hl.1 (Nat.le_of_ble_eq_true rfl) dX5_readItem_28 ⟨Nat.le_refl _, Nat.le_refl _⟩ hP hD hS (fun H locs hP hD hS => ?_)
        refine lv_aload_n hx hb dX5_readItem_31 rfl (lv_at hl 0 rfl) ?_
        obtain ⟨r30, u29, e31, hF⟩ := bdI_some hF
        refine MM.callVi (m_X5_readLook e31) k_X5_57 S ecOK hEs hK ⟨by decide, by decide⟩ (va_recv hK hP rfl c_TR) rfl rfl hl.1 (Nat.le_of_ble_eq_true rfl) dX5_readItem_32 ⟨Nat.le_refl _, Nat.le_refl _⟩ hP hD hS (fun H locs hP hD hS => ?_)
        obtain ⟨hz32, hF⟩ := gz_some hF
        obtain ⟨rfl, rfl⟩ := sp_eq hF
        exact retZ S hr hlocks hP hD hS hz32 dX5_readItem_35
    · have hF := ite_f hF c4
      refine lv_aload_n hx hb dX5_readItem_9 rfl (lv_at hl 0 rfl) ?_
      obtain ⟨u33, e35, hF⟩ := bdV_some hF
      refine MM.callVv (m_X5_step e35) k_X5_33 S ecOK hEs hK ⟨by decide, by decide⟩ (va_recv hK hP rfl c_TR) rfl rfl hl.1 (Nat.le_of_ble_eq_true rfl) dX5_readItem_10 ⟨Nat.le_refl _, Nat.le_refl _⟩ hP hD hS (fun H locs hP hD hS => ?_)
      refine lv_aload_n hx hb dX5_readItem_13 rfl (lv_at hl 0 rfl) ?_
      obtain ⟨r37, u36, e38, hF⟩ := bdI_some hF
      refine MM.callVi (m_X5_readSlack e38) k_X5_52 S ecOK hEs hK ⟨by decide, by decide⟩ (va_recv hK hP rfl c_TR) rfl rfl hl.1 (Nat.le_of_ble_eq_true rfl) dX5_readItem_14 ⟨Nat.le_refl _, Nat.le_refl _⟩ hP hD hS (fun H locs hP hD hS => ?_)
      obtain ⟨hz39, hF⟩ := gz_some hF
      obtain ⟨rfl, rfl⟩ := sp_eq hF
      exact retZ S hr hlocks hP hD hS hz39 dX5_readItem_17
  have hl := lv_entry ([.ref (a 17)]) (n := 3) (Nat.le_of_ble_eq_true rfl)
  rw [lg_entry_eq]
  generalize (lg_sl ([.ref (a 17)]) ++ List.replicate (3 - (lg_sl ([.ref (a 17)])).length) Slot.unset).toArray = ls at hl ⊢
  exact b_main _ _ _ hP hD hS hl

set_option maxRecDepth 100000 in
set_option maxHeartbeats 4000000 in
theorem m_X5_readArchive   {u u' : Mem} {r : Int32}  (hF : F_X5_readArchive  u  = some (r, u')) : MC l D cc a tU adK adV yX5_readArchive cX5_readArchive 2 (some .int) 8 172 [.ref (a 17)] u (some (.int r)) u' := by
  refine MM.ofW (by decide) (fun p e s m below meth c S hr hlocks hK hEs hP hD hS => ?_)
  have S : CallFix p m c cX5_readArchive 2 s _ gtbl RX5 := S
  obtain ⟨hx, hb, hml, hown, hts⟩ := id S
  have b65 : ∀  (u : Mem)  , F_X5_readArchive_65  u  = some (r, u') → BW p l e s m below meth c 8 172 [.ref (a 17)] D (AC a) (some (.int r)) (wlC cc a u') 2 (wlC cc a u) 65 [(0, .ref (a 17))] [] := by
    intro  u  hF H locs ls hP hD hS hl
    unfold F_X5_readArchive_65 at hF
    refine lv_aload_n hx hb dX5_readArchive_65 rfl (lv_at hl 0 rfl) ?_
    refine va_get_w S hK hP _ c_TR rfl igX5 1 (by decide) q217 rfl rfl dX5_readArchive_66 ?_
    refine lv_aload_n hx hb dX5_readArchive_69 rfl (lv_at hl 0 rfl) ?_
    refine va_get_w S hK hP _ c_TR rfl igX5 2 (by decide) q218 rfl rfl dX5_readArchive_70 ?_
    obtain ⟨u1, e3, hF⟩ := bdV_some hF
    refine MM.callVv (m_X0_become ⟨by decide, by decide⟩ ⟨by decide, by decide⟩ e3) k_X5_25 S ecOK hEs hK ⟨by decide, by decide⟩ (va_recv hK hP rfl (c_AR ⟨by decide, by decide⟩)) rfl rfl hl.1 (Nat.le_of_ble_eq_true rfl) dX5_readArchive_73 ⟨Nat.le_refl _, Nat.le_refl _⟩ hP hD hS (fun H locs hP hD hS => ?_)
    refine lv_iconst (v := -1) hx hb dX5_readArchive_76 (by decide) ?_
    refine lv_aload_n hx hb dX5_readArchive_77 rfl (lv_at hl 0 rfl) ?_
    refine va_get_w S hK hP _ c_TR rfl igX5 4 (by decide) q220 rfl rfl dX5_readArchive_78 ?_
    refine lv_isub hx hb dX5_readArchive_81 ?_
    obtain ⟨rfl, rfl⟩ := sp_eq hF
    exact retI S hr hlocks hP hD hS dX5_readArchive_82
  have b22 : ∀ (n : Nat) (u : Mem) (v1 : Int32) , F_X5_readArchive_22  n u v1 = some (r, u') → BW p l e s m below meth c 8 172 [.ref (a 17)] D (AC a) (some (.int r)) (wlC cc a u') 2 (wlC cc a u) 22 [(0, .ref (a 17)), (1, .int v1)] [] := by
    intro n
    induction n with
    | zero => intro u v1 hF; cases hF
    | succ n ih =>
      intro u v1 hF H locs ls hP hD hS hl
      unfold F_X5_readArchive_22 at hF
      refine lv_iload_n hx hb dX5_readArchive_22 rfl (lv_at hl 1 rfl) ?_
      refine lv_bipush (v := 120) hx hb dX5_readArchive_23 (by decide) ?_
      refine lv_icmp_gt (tgt := 65) hx hb dX5_readArchive_25 (by decide) (fun c4 => ?_) (fun c4 => ?_)
      · have hF := ite_t hF c4
        exact b65 _  hF H locs ls hP hD hS (lv_sub hl [0] rfl)
      · have hF := ite_f hF c4
        refine lv_aload_n hx hb dX5_readArchive_28 rfl (lv_at hl 0 rfl) ?_
        obtain ⟨r6, u5, e7, hF⟩ := bdI_some hF
        refine MM.callVi (m_X5_readItem e7) k_X5_36 S ecOK hEs hK ⟨by decide, by decide⟩ (va_recv hK hP rfl c_TR) rfl rfl hl.1 (Nat.le_of_ble_eq_true rfl) dX5_readArchive_29 ⟨Nat.le_refl _, Nat.le_refl _⟩ hP hD hS (fun H locs hP hD hS => ?_)
        refine lv_if_eq (tgt := 65) hx hb dX5_readArchive_32 (by decide) (fun c8 => ?_) (fun c8 => ?_)
        · have hF := ite_t hF c8
          exact b65 _  hF H locs ls hP hD hS (lv_sub hl [0] rfl)
        · have hF := ite_f hF c8
          refine lv_inc1 (k := 1) (lv' := [(1, .int _), (0, .ref _)]) hx hb dX5_readArchive_35 hl rfl (by decide) rfl (fun ls hl => ?_)
          refine lv_aload_n hx hb dX5_readArchive_38 rfl (lv_at hl 1 rfl) ?_
          refine va_get_w S hK hP _ c_TR rfl igX5 3 (by decide) q219 rfl rfl dX5_readArchive_39 ?_
          refine lv_if_ne (tgt := 47) hx hb dX5_readArchive_42 (by decide) (fun c9 => ?_) (fun c9 => ?_)
          · have hF := ite_f hF c9
            refine lv_aload_n hx hb dX5_readArchive_47 rfl (lv_at hl 1 rfl) ?_
            refine va_get_w S hK hP _ c_TR rfl igX5 3 (by decide) q219 rfl rfl dX5_readArchive_48 ?_
            refine lv_iconst (v := 3) hx hb dX5_readArchive_51 (by decide) ?_
            refine lv_icmp_eq (tgt := 58) hx hb dX5_readArchive_52 (by decide) (fun c10 => ?_) (fun c10 => ?_)
            · have hF := ite_t hF c10
              refine lv_aload_n hx hb dX5_readArchive_58 rfl (lv_at hl 1 rfl) ?_
              obtain ⟨u11, e13, hF⟩ := bdV_some hF
              refine MM.callVv (m_X5_step e13) k_X5_33 S ecOK hEs hK ⟨by decide, by decide⟩ (va_recv hK hP rfl c_TR) rfl rfl hl.1 (Nat.le_of_ble_eq_true rfl) dX5_readArchive_59 ⟨Nat.le_refl _, Nat.le_refl _⟩ hP hD hS (fun H locs hP hD hS => ?_)
              refine lv_goto (tgt := 22) hx hb dX5_readArchive_62 (by decide) ?_
              exact ih _ _  hF H locs ls hP hD hS (lv_sub hl [1, 0] rfl)
            · have hF := ite_f hF c10
              refine lv_goto (tgt := 65) hx hb dX5_readArchive_55 (by decide) ?_
              exact b65 _  hF H locs ls hP hD hS (lv_sub hl [1] rfl)
          · have hF := ite_t hF c9
            refine lv_iload_n hx hb dX5_readArchive_45 rfl (lv_at hl 0 rfl) ?_
            obtain ⟨rfl, rfl⟩ := sp_eq hF
            exact retI S hr hlocks hP hD hS dX5_readArchive_46
  unfold F_X5_readArchive at hF
  have b_main : BW p l e s m below meth c 8 172 [.ref (a 17)] D (AC a) (some (.int r)) (wlC cc a u') 2 (wlC cc a u) 0 [(0, .ref (a 17))] [] := by
    intro H locs ls hP hD hS hl
    refine lv_aload_n hx hb dX5_readArchive_0 rfl (lv_at hl 0 rfl) ?_
    refine va_get_w S hK hP _ c_TR rfl igX5 2 (by decide) q218 rfl rfl dX5_readArchive_1 ?_
    refine lv_aload_n hx hb dX5_readArchive_4 rfl (lv_at hl 0 rfl) ?_
    refine va_get_w S hK hP _ c_TR rfl igX5 1 (by decide) q217 rfl rfl dX5_readArchive_5 ?_
    obtain ⟨u14, e16, hF⟩ := bdV_some hF
    refine MM.callVv (m_X0_become ⟨by decide, by decide⟩ ⟨by decide, by decide⟩ e16) k_X5_25 S ecOK hEs hK ⟨by decide, by decide⟩ (va_recv hK hP rfl (c_AR ⟨by decide, by decide⟩)) rfl rfl hl.1 (Nat.le_of_ble_eq_true rfl) dX5_readArchive_8 ⟨Nat.le_refl _, Nat.le_refl _⟩ hP hD hS (fun H locs hP hD hS => ?_)
    refine lv_aload_n hx hb dX5_readArchive_11 rfl (lv_at hl 0 rfl) ?_
    refine lv_iconst (v := 0) hx hb dX5_readArchive_12 (by decide) ?_
    refine va_put_w S igX5 tyX5 tyX5_ok nmX5 hK hP hD hS _ c_TR rfl 5 (by decide) q221 rfl rfl (tyX5_ok 5 (by decide)) rfl rfl (Nat.le_of_ble_eq_true rfl) (z_TR (by decide)) dX5_readArchive_13 (fun H locs hP hD hS => ?_)
    refine lv_aload_n hx hb dX5_readArchive_16 rfl (lv_at hl 0 rfl) ?_
    obtain ⟨u17, e19, hF⟩ := bdV_some hF
    refine MM.callVv (m_X5_step e19) k_X5_33 S ecOK hEs hK ⟨by decide, by decide⟩ (va_recv hK hP rfl c_TR) rfl rfl hl.1 (Nat.le_of_ble_eq_true rfl) dX5_readArchive_17 ⟨Nat.le_refl _, Nat.le_refl _⟩ hP hD hS (fun H locs hP hD hS => ?_)
    refine lv_iconst (v := 0) hx hb dX5_readArchive_20 (by decide) ?_
    refine lv_istore_n (lv' := [(1, .int _), (0, .ref _)]) hx hb dX5_readArchive_21 rfl hl (by decide) rfl (fun ls hl => ?_)
    exact b22 _ _ _  hF H locs ls hP hD hS (lv_sub hl [1, 0] rfl)
  have hl := lv_entry ([.ref (a 17)]) (n := 2) (Nat.le_of_ble_eq_true rfl)
  rw [lg_entry_eq]
  generalize (lg_sl ([.ref (a 17)]) ++ List.replicate (2 - (lg_sl ([.ref (a 17)])).length) Slot.unset).toArray = ls at hl ⊢
  exact b_main _ _ _ hP hD hS hl

set_option maxRecDepth 100000 in
set_option maxHeartbeats 4000000 in
theorem m_X6_text   {u u' : Mem} {r : Int32}  (hF : F_X6_text  u  = some (r, u')) : MC l D cc a tU adK adV yX6_text cX6_text 2 (some .int) 9 193 [.ref (a 0)] u (some (.int r)) u' := by
  refine MM.ofW (by decide) (fun p e s m below meth c S hr hlocks hK hEs hP hD hS => ?_)
  have S : CallFix p m c cX6_text 2 s _ gtbl RX6 := S
  obtain ⟨hx, hb, hml, hown, hts⟩ := id S
  unfold F_X6_text at hF
  have b_main : BW p l e s m below meth c 9 193 [.ref (a 0)] D (AC a) (some (.int r)) (wlC cc a u') 2 (wlC cc a u) 0 [(0, .ref (a 0))] [] := by
    intro H locs ls hP hD hS hl
    refine lv_aload_n hx hb dX6_text_0 rfl (lv_at hl 0 rfl) ?_
    refine va_get_w S hK hP _ c_SP rfl igX6 4 (by decide) q263 rfl rfl dX6_text_1 ?_
    obtain ⟨r2, u1, e3, hF⟩ := bdI_some hF
    refine MM.callVi (m_X5_readArchive e3) k_X6_221 S ecOK hEs hK ⟨by decide, by decide⟩ (va_recv hK hP rfl c_TR) rfl rfl hl.1 (Nat.le_of_ble_eq_true rfl) dX6_text_4 ⟨Nat.le_refl _, Nat.le_refl _⟩ hP hD hS (fun H locs hP hD hS => ?_)
    refine lv_istore_n (lv' := [(1, .int _), (0, .ref _)]) hx hb dX6_text_7 rfl hl (by decide) rfl (fun ls hl => ?_)
    refine lv_aload_n hx hb dX6_text_8 rfl (lv_at hl 1 rfl) ?_
    refine va_get_w S hK hP _ c_SP rfl igX6 3 (by decide) q262 rfl rfl dX6_text_9 ?_
    refine lv_iconst (v := 0) hx hb dX6_text_12 (by decide) ?_
    refine va_put_w S igX4 tyX4 tyX4_ok nmX4 hK hP hD hS _ c_TA rfl 1 (by decide) q202 rfl rfl (tyX4_ok 1 (by decide)) rfl rfl (Nat.le_of_ble_eq_true rfl) z_TA dX6_text_13 (fun H locs hP hD hS => ?_)
    refine lv_iload_n hx hb dX6_text_16 rfl (lv_at hl 0 rfl) ?_
    obtain ⟨rfl, rfl⟩ := sp_eq hF
    exact retI S hr hlocks hP hD hS dX6_text_17
  have hl := lv_entry ([.ref (a 0)]) (n := 2) (Nat.le_of_ble_eq_true rfl)
  rw [lg_entry_eq]
  generalize (lg_sl ([.ref (a 0)]) ++ List.replicate (2 - (lg_sl ([.ref (a 0)])).length) Slot.unset).toArray = ls at hl ⊢
  exact b_main _ _ _ hP hD hS hl

set_option maxRecDepth 100000 in
set_option maxHeartbeats 4000000 in
theorem m_X6_isSheet  {x0 : Int32} {u u' : Mem} {r : Int32}  (hF : F_X6_isSheet  u x0 = some (r, u')) : MC l D cc a tU adK adV yX6_isSheet cX6_isSheet 1 (some .boolean) 0 0 [.int x0] u (some (.int r)) u' := by
  refine MM.ofW (by decide) (fun p e s m below meth c S hr hlocks hK hEs hP hD hS => ?_)
  have S : CallFix p m c cX6_isSheet 1 s _ gtbl RX6 := S
  obtain ⟨hx, hb, hml, hown, hts⟩ := id S
  have b14 : ∀  (u : Mem) (y0 : Int32) , F_X6_isSheet_14  u y0 = some (r, u') → BW p l e s m below meth c 0 0 [.int x0] D (AC a) (some (.int r)) (wlC cc a u') 1 (wlC cc a u) 14 [] [.int y0] := by
    intro  u y0 hF H locs ls hP hD hS hl
    unfold F_X6_isSheet_14 at hF
    obtain ⟨hz1, hF⟩ := gz_some hF
    obtain ⟨rfl, rfl⟩ := sp_eq hF
    exact retZ S hr hlocks hP hD hS hz1 dX6_isSheet_14
  have b13 : ∀  (u : Mem)  , F_X6_isSheet_13  u  = some (r, u') → BW p l e s m below meth c 0 0 [.int x0] D (AC a) (some (.int r)) (wlC cc a u') 1 (wlC cc a u) 13 [] [] := by
    intro  u  hF H locs ls hP hD hS hl
    unfold F_X6_isSheet_13 at hF
    refine lv_iconst (v := 0) hx hb dX6_isSheet_13 (by decide) ?_
    exact b14 _ _  hF H locs ls hP hD hS (lv_sub hl [] rfl)
  unfold F_X6_isSheet at hF
  have b_main : BW p l e s m below meth c 0 0 [.int x0] D (AC a) (some (.int r)) (wlC cc a u') 1 (wlC cc a u) 0 [(0, .int x0)] [] := by
    intro H locs ls hP hD hS hl
    refine lv_iload_n hx hb dX6_isSheet_0 rfl (lv_at hl 0 rfl) ?_
    refine lv_if_lt (tgt := 13) hx hb dX6_isSheet_1 (by decide) (fun c2 => ?_) (fun c2 => ?_)
    · have hF := ite_t hF c2
      exact b13 _  hF H locs ls hP hD hS (lv_sub hl [] rfl)
    · have hF := ite_f hF c2
      refine lv_iload_n hx hb dX6_isSheet_4 rfl (lv_at hl 0 rfl) ?_
      refine lv_iconst (v := 4) hx hb dX6_isSheet_5 (by decide) ?_
      refine lv_icmp_ge (tgt := 13) hx hb dX6_isSheet_6 (by decide) (fun c3 => ?_) (fun c3 => ?_)
      · have hF := ite_t hF c3
        exact b13 _  hF H locs ls hP hD hS (lv_sub hl [] rfl)
      · have hF := ite_f hF c3
        refine lv_iconst (v := 1) hx hb dX6_isSheet_9 (by decide) ?_
        refine lv_goto (tgt := 14) hx hb dX6_isSheet_10 (by decide) ?_
        exact b14 _ _  hF H locs ls hP hD hS (lv_sub hl [] rfl)
  have hl := lv_entry ([.int x0]) (n := 1) (Nat.le_of_ble_eq_true rfl)
  rw [lg_entry_eq]
  generalize (lg_sl ([.int x0]) ++ List.replicate (1 - (lg_sl ([.int x0])).length) Slot.unset).toArray = ls at hl ⊢
  exact b_main _ _ _ hP hD hS hl

set_option maxRecDepth 100000 in
set_option maxHeartbeats 4000000 in
theorem m_X6_isBits  {x0 : Int32} {u u' : Mem} {r : Int32}  (hF : F_X6_isBits  u x0 = some (r, u')) : MC l D cc a tU adK adV yX6_isBits cX6_isBits 1 (some .boolean) 0 0 [.int x0] u (some (.int r)) u' := by
  refine MM.ofW (by decide) (fun p e s m below meth c S hr hlocks hK hEs hP hD hS => ?_)
  have S : CallFix p m c cX6_isBits 1 s _ gtbl RX6 := S
  obtain ⟨hx, hb, hml, hown, hts⟩ := id S
  have b27 : ∀  (u : Mem) (y0 : Int32) , F_X6_isBits_27  u y0 = some (r, u') → BW p l e s m below meth c 0 0 [.int x0] D (AC a) (some (.int r)) (wlC cc a u') 1 (wlC cc a u) 27 [] [.int y0] := by
    intro  u y0 hF H locs ls hP hD hS hl
    unfold F_X6_isBits_27 at hF
    obtain ⟨hz1, hF⟩ := gz_some hF
    obtain ⟨rfl, rfl⟩ := sp_eq hF
    exact retZ S hr hlocks hP hD hS hz1 dX6_isBits_27
  have b22 : ∀  (u : Mem)  , F_X6_isBits_22  u  = some (r, u') → BW p l e s m below meth c 0 0 [.int x0] D (AC a) (some (.int r)) (wlC cc a u') 1 (wlC cc a u) 22 [] [] := by
    intro  u  hF H locs ls hP hD hS hl
    unfold F_X6_isBits_22 at hF
    refine lv_iconst (v := 1) hx hb dX6_isBits_22 (by decide) ?_
    refine lv_goto (tgt := 27) hx hb dX6_isBits_23 (by decide) ?_
    exact b27 _ _  hF H locs ls hP hD hS (lv_sub hl [] rfl)
  unfold F_X6_isBits at hF
  have b_main : BW p l e s m below meth c 0 0 [.int x0] D (AC a) (some (.int r)) (wlC cc a u') 1 (wlC cc a u) 0 [(0, .int x0)] [] := by
    intro H locs ls hP hD hS hl
    refine lv_iload_n hx hb dX6_isBits_0 rfl (lv_at hl 0 rfl) ?_
    refine lv_if_eq (tgt := 22) hx hb dX6_isBits_1 (by decide) (fun c2 => ?_) (fun c2 => ?_)
    · have hF := ite_t hF c2
      exact b22 _  hF H locs ls hP hD hS (lv_sub hl [] rfl)
    · have hF := ite_f hF c2
      refine lv_iload_n hx hb dX6_isBits_4 rfl (lv_at hl 0 rfl) ?_
      refine lv_bipush (v := 8) hx hb dX6_isBits_5 (by decide) ?_
      refine lv_icmp_eq (tgt := 22) hx hb dX6_isBits_7 (by decide) (fun c3 => ?_) (fun c3 => ?_)
      · have hF := ite_t hF c3
        exact b22 _  hF H locs ls hP hD hS (lv_sub hl [] rfl)
      · have hF := ite_f hF c3
        refine lv_iload_n hx hb dX6_isBits_10 rfl (lv_at hl 0 rfl) ?_
        refine lv_bipush (v := 16) hx hb dX6_isBits_11 (by decide) ?_
        refine lv_icmp_eq (tgt := 22) hx hb dX6_isBits_13 (by decide) (fun c4 => ?_) (fun c4 => ?_)
        · have hF := ite_t hF c4
          exact b22 _  hF H locs ls hP hD hS (lv_sub hl [] rfl)
        · have hF := ite_f hF c4
          refine lv_iload_n hx hb dX6_isBits_16 rfl (lv_at hl 0 rfl) ?_
          refine lv_bipush (v := 64) hx hb dX6_isBits_17 (by decide) ?_
          refine lv_icmp_ne (tgt := 26) hx hb dX6_isBits_19 (by decide) (fun c5 => ?_) (fun c5 => ?_)
          · have hF := ite_f hF c5
            refine lv_iconst (v := 0) hx hb dX6_isBits_26 (by decide) ?_
            exact b27 _ _  hF H locs ls hP hD hS (lv_sub hl [] rfl)
          · have hF := ite_t hF c5
            exact b22 _  hF H locs ls hP hD hS (lv_sub hl [] rfl)
  have hl := lv_entry ([.int x0]) (n := 1) (Nat.le_of_ble_eq_true rfl)
  rw [lg_entry_eq]
  generalize (lg_sl ([.int x0]) ++ List.replicate (1 - (lg_sl ([.int x0])).length) Slot.unset).toArray = ls at hl ⊢
  exact b_main _ _ _ hP hD hS hl

set_option maxRecDepth 100000 in
set_option maxHeartbeats 4000000 in
theorem m_X3_lay {x0 : Nat} {x1 : Int32} {x2 : Int32} {u u' : Mem} (hx0 : x0 < 4) (hF : F_X3_lay x0 u x1 x2 = some u') : MC l D cc a tU adK adV yX3_lay cX3_lay 4 none 0 0 [.ref (a (x0 + 19)), .int x1, .int x2] u none u' := by
  refine MM.ofW (by decide) (fun p e s m below meth c S hr hlocks hK hEs hP hD hS => ?_)
  have S : CallFix p m c cX3_lay 4 s _ gtbl RX3 := S
  obtain ⟨hx, hb, hml, hown, hts⟩ := id S
  have b12 : ∀ (n : Nat) (u : Mem) (v0 : Nat) (v3 : Int32) (hv0 : v0 < 4), F_X3_lay_12  n u v0 v3 = some u' → BW p l e s m below meth c 0 0 [.ref (a (x0 + 19)), .int x1, .int x2] D (AC a) none (wlC cc a u') 4 (wlC cc a u) 12 [(0, .ref (a (v0 + 19))), (3, .int v3)] [] := by
    intro n
    induction n with
    | zero => intro u v0 v3 hv0 hF; cases hF
    | succ n ih =>
      intro u v0 v3 hv0 hF H locs ls hP hD hS hl
      unfold F_X3_lay_12 at hF
      refine lv_iload_n hx hb dX3_lay_12 rfl (lv_at hl 1 rfl) ?_
      refine lv_bipush (v := 40) hx hb dX3_lay_13 (by decide) ?_
      refine lv_icmp_ge (tgt := 31) hx hb dX3_lay_15 (by decide) (fun c1 => ?_) (fun c1 => ?_)
      · have hF := ite_t hF c1
        obtain rfl := sv_eq hF
        exact retV S hr hlocks hP hD hS dX3_lay_31
      · have hF := ite_f hF c1
        refine lv_aload_n hx hb dX3_lay_18 rfl (lv_at hl 0 rfl) ?_
        refine va_get_w S hK hP _ (c_SH hv0) rfl igX3 0 (by decide) q245 rfl rfl dX3_lay_19 ?_
        refine lv_iload_n hx hb dX3_lay_22 rfl (lv_at hl 1 rfl) ?_
        refine lv_lconst (v := 0) hx hb dX3_lay_23 (by decide) ?_
        obtain ⟨hin2, hF⟩ := gd_some hF
        refine cLast S hK hP hD hS hv0 hin2 dX3_lay_24 (fun H locs hP hD hS => ?_)
        refine lv_inc1 (k := 1) (lv' := [(3, .int _), (0, .ref _)]) hx hb dX3_lay_25 hl rfl (by decide) rfl (fun ls hl => ?_)
        refine lv_goto (tgt := 12) hx hb dX3_lay_28 (by decide) ?_
        exact ih _ _ _ hv0 hF H locs ls hP hD hS (lv_sub hl [1, 0] rfl)
  unfold F_X3_lay at hF
  have b_main : BW p l e s m below meth c 0 0 [.ref (a (x0 + 19)), .int x1, .int x2] D (AC a) none (wlC cc a u') 4 (wlC cc a u) 0 [(0, .ref (a (x0 + 19))), (1, .int x1), (2, .int x2)] [] := by
    intro H locs ls hP hD hS hl
    refine lv_aload_n hx hb dX3_lay_0 rfl (lv_at hl 0 rfl) ?_
    refine lv_iload_n hx hb dX3_lay_1 rfl (lv_at hl 1 rfl) ?_
    refine va_put_w S igX3 tyX3 tyX3_ok nmX3 hK hP hD hS _ (c_SH hx0) rfl 1 (by decide) q247 rfl rfl (tyX3_ok 1 (by decide)) rfl rfl (Nat.le_of_ble_eq_true rfl) (z_SH hx0 (by decide)) dX3_lay_2 (fun H locs hP hD hS => ?_)
    refine lv_aload_n hx hb dX3_lay_5 rfl (lv_at hl 0 rfl) ?_
    refine lv_iload_n hx hb dX3_lay_6 rfl (lv_at hl 2 rfl) ?_
    refine va_put_w S igX3 tyX3 tyX3_ok nmX3 hK hP hD hS _ (c_SH hx0) rfl 2 (by decide) q249 rfl rfl (tyX3_ok 2 (by decide)) rfl rfl (Nat.le_of_ble_eq_true rfl) (z_SH hx0 (by decide)) dX3_lay_7 (fun H locs hP hD hS => ?_)
    refine lv_iconst (v := 0) hx hb dX3_lay_10 (by decide) ?_
    refine lv_istore_n (lv' := [(3, .int _), (0, .ref _), (1, .int _), (2, .int _)]) hx hb dX3_lay_11 rfl hl (by decide) rfl (fun ls hl => ?_)
    exact b12 _ _ _ _ hx0 hF H locs ls hP hD hS (lv_sub hl [1, 0] rfl)
  have hl := lv_entry ([.ref (a (x0 + 19)), .int x1, .int x2]) (n := 4) (Nat.le_of_ble_eq_true rfl)
  rw [lg_entry_eq]
  generalize (lg_sl ([.ref (a (x0 + 19)), .int x1, .int x2]) ++ List.replicate (4 - (lg_sl ([.ref (a (x0 + 19)), .int x1, .int x2])).length) Slot.unset).toArray = ls at hl ⊢
  exact b_main _ _ _ hP hD hS hl

set_option maxRecDepth 100000 in
set_option maxHeartbeats 4000000 in
theorem m_X6_sheet  {x1 : Int32} {x2 : Int32} {x3 : Int32} {u u' : Mem} {r : Int32}  (hF : F_X6_sheet  u x1 x2 x3 = some (r, u')) : MC l D cc a tU adK adV yX6_sheet cX6_sheet 5 (some .int) 1 23 [.ref (a 0), .int x1, .int x2, .int x3] u (some (.int r)) u' := by
  refine MM.ofW (by decide) (fun p e s m below meth c S hr hlocks hK hEs hP hD hS => ?_)
  have S : CallFix p m c cX6_sheet 5 s _ gtbl RX6 := S
  obtain ⟨hx, hb, hml, hown, hts⟩ := id S
  have b14 : ∀  (u : Mem)  , F_X6_sheet_14  u  = some (r, u') → BW p l e s m below meth c 1 23 [.ref (a 0), .int x1, .int x2, .int x3] D (AC a) (some (.int r)) (wlC cc a u') 5 (wlC cc a u) 14 [(0, .ref (a 0))] [] := by
    intro  u  hF H locs ls hP hD hS hl
    unfold F_X6_sheet_14 at hF
    refine lv_aload_n hx hb dX6_sheet_14 rfl (lv_at hl 0 rfl) ?_
    refine lv_ldc hx hb hown (hts _ q291) dX6_sheet_15 ?_
    obtain ⟨r2, u1, e3, hF⟩ := bdI_some hF
    refine MM.callVi (m_X6_found e3) k_X6_64 S ecOK hEs hK ⟨by decide, by decide⟩ (va_recv hK hP rfl c_SP) rfl rfl hl.1 (Nat.le_of_ble_eq_true rfl) dX6_sheet_17 ⟨Nat.le_refl _, Nat.le_refl _⟩ hP hD hS (fun H locs hP hD hS => ?_)
    obtain ⟨rfl, rfl⟩ := sp_eq hF
    exact retI S hr hlocks hP hD hS dX6_sheet_20
  have b54 : ∀  (u : Mem) (v1 : Int32) (v2 : Int32) (y0 : Int32) , F_X6_sheet_54  u v1 v2 y0 = some (r, u') → BW p l e s m below meth c 1 23 [.ref (a 0), .int x1, .int x2, .int x3] D (AC a) (some (.int r)) (wlC cc a u') 5 (wlC cc a u) 54 [(0, .ref (a 0)), (1, .int v1), (2, .int v2)] [.int y0] := by
    intro  u v1 v2 y0 hF H locs ls hP hD hS hl
    unfold F_X6_sheet_54 at hF
    refine lv_istore (lv' := [(4, .int _), (0, .ref _), (1, .int _), (2, .int _)]) hx hb dX6_sheet_54 hl (by decide) rfl (fun ls hl => ?_)
    refine lv_aload_n hx hb dX6_sheet_56 rfl (lv_at hl 1 rfl) ?_
    refine va_get_w S hK hP _ c_SP rfl igX6 5 (by decide) q264 rfl rfl dX6_sheet_57 ?_
    refine lv_iload_n hx hb dX6_sheet_60 rfl (lv_at hl 2 rfl) ?_
    obtain ⟨hin4, hF⟩ := gd_some hF
    refine cSald S hK hP hin4 dX6_sheet_61 ?_
    refine lv_iload_n hx hb dX6_sheet_62 rfl (lv_at hl 3 rfl) ?_
    refine lv_iload hx hb dX6_sheet_63 (lv_at hl 0 rfl) ?_
    obtain ⟨u5, e7, hF⟩ := bdV_some hF
    refine MM.callVv (m_X3_lay (vp_lt hin4) e7) k_X6_230 S ecOK hEs hK ⟨by decide, by decide⟩ (va_recv hK hP rfl (c_SH (vp_lt hin4))) rfl rfl hl.1 (Nat.le_of_ble_eq_true rfl) dX6_sheet_65 ⟨Nat.le_refl _, Nat.le_refl _⟩ hP hD hS (fun H locs hP hD hS => ?_)
    refine lv_iload hx hb dX6_sheet_68 (lv_at hl 0 rfl) ?_
    obtain ⟨rfl, rfl⟩ := sp_eq hF
    exact retI S hr hlocks hP hD hS dX6_sheet_70
  unfold F_X6_sheet at hF
  have b_main : BW p l e s m below meth c 1 23 [.ref (a 0), .int x1, .int x2, .int x3] D (AC a) (some (.int r)) (wlC cc a u') 5 (wlC cc a u) 0 [(0, .ref (a 0)), (1, .int x1), (2, .int x2), (3, .int x3)] [] := by
    intro H locs ls hP hD hS hl
    refine lv_iload_n hx hb dX6_sheet_0 rfl (lv_at hl 1 rfl) ?_
    obtain ⟨r9, u8, e10, hF⟩ := bdI_some hF
    refine MM.callSi (m_X6_isSheet e10) k_X6_224 S ecOK hEs hK ⟨by decide, by decide⟩ rfl rfl hl.1 (Nat.le_of_ble_eq_true rfl) dX6_sheet_1 ⟨Nat.le_refl _, Nat.le_refl _⟩ hP hD hS (fun H locs hP hD hS => ?_)
    refine lv_if_eq (tgt := 14) hx hb dX6_sheet_4 (by decide) (fun c11 => ?_) (fun c11 => ?_)
    · have hF := ite_t hF c11
      exact b14 _  hF H locs ls hP hD hS (lv_sub hl [0] rfl)
    · have hF := ite_f hF c11
      refine lv_iload_n hx hb dX6_sheet_7 rfl (lv_at hl 2 rfl) ?_
      obtain ⟨r13, u12, e14, hF⟩ := bdI_some hF
      refine MM.callSi (m_X6_isBits e14) k_X6_227 S ecOK hEs hK ⟨by decide, by decide⟩ rfl rfl hl.1 (Nat.le_of_ble_eq_true rfl) dX6_sheet_8 ⟨Nat.le_refl _, Nat.le_refl _⟩ hP hD hS (fun H locs hP hD hS => ?_)
      refine lv_if_ne (tgt := 21) hx hb dX6_sheet_11 (by decide) (fun c15 => ?_) (fun c15 => ?_)
      · have hF := ite_f hF c15
        refine lv_iload_n hx hb dX6_sheet_21 rfl (lv_at hl 3 rfl) ?_
        refine lv_if_ge (tgt := 32) hx hb dX6_sheet_22 (by decide) (fun c16 => ?_) (fun c16 => ?_)
        · have hF := ite_t hF c16
          refine lv_iload_n hx hb dX6_sheet_32 rfl (lv_at hl 3 rfl) ?_
          refine lv_bipush (v := 40) hx hb dX6_sheet_33 (by decide) ?_
          refine lv_icmp_le (tgt := 45) hx hb dX6_sheet_35 (by decide) (fun c17 => ?_) (fun c17 => ?_)
          · have hF := ite_t hF c17
            refine lv_iload_n hx hb dX6_sheet_45 rfl (lv_at hl 2 rfl) ?_
            refine lv_if_ne (tgt := 53) hx hb dX6_sheet_46 (by decide) (fun c18 => ?_) (fun c18 => ?_)
            · have hF := ite_f hF c18
              refine lv_iload_n hx hb dX6_sheet_53 rfl (lv_at hl 3 rfl) ?_
              exact b54 _ _ _ _  hF H locs ls hP hD hS (lv_sub hl [0, 1, 2] rfl)
            · have hF := ite_t hF c18
              refine lv_iconst (v := 0) hx hb dX6_sheet_49 (by decide) ?_
              refine lv_goto (tgt := 54) hx hb dX6_sheet_50 (by decide) ?_
              exact b54 _ _ _ _  hF H locs ls hP hD hS (lv_sub hl [0, 1, 2] rfl)
          · have hF := ite_f hF c17
            refine lv_aload_n hx hb dX6_sheet_38 rfl (lv_at hl 0 rfl) ?_
            refine lv_ldc hx hb hown (hts _ q291) dX6_sheet_39 ?_
            obtain ⟨r20, u19, e21, hF⟩ := bdI_some hF
            refine MM.callVi (m_X6_found e21) k_X6_64 S ecOK hEs hK ⟨by decide, by decide⟩ (va_recv hK hP rfl c_SP) rfl rfl hl.1 (Nat.le_of_ble_eq_true rfl) dX6_sheet_41 ⟨Nat.le_refl _, Nat.le_refl _⟩ hP hD hS (fun H locs hP hD hS => ?_)
            obtain ⟨rfl, rfl⟩ := sp_eq hF
            exact retI S hr hlocks hP hD hS dX6_sheet_44
        · have hF := ite_f hF c16
          refine lv_aload_n hx hb dX6_sheet_25 rfl (lv_at hl 0 rfl) ?_
          refine lv_ldc hx hb hown (hts _ q525) dX6_sheet_26 ?_
          obtain ⟨r23, u22, e24, hF⟩ := bdI_some hF
          refine MM.callVi (m_X6_found e24) k_X6_64 S ecOK hEs hK ⟨by decide, by decide⟩ (va_recv hK hP rfl c_SP) rfl rfl hl.1 (Nat.le_of_ble_eq_true rfl) dX6_sheet_28 ⟨Nat.le_refl _, Nat.le_refl _⟩ hP hD hS (fun H locs hP hD hS => ?_)
          obtain ⟨rfl, rfl⟩ := sp_eq hF
          exact retI S hr hlocks hP hD hS dX6_sheet_31
      · have hF := ite_t hF c15
        exact b14 _  hF H locs ls hP hD hS (lv_sub hl [0] rfl)
  have hl := lv_entry ([.ref (a 0), .int x1, .int x2, .int x3]) (n := 5) (Nat.le_of_ble_eq_true rfl)
  rw [lg_entry_eq]
  generalize (lg_sl ([.ref (a 0), .int x1, .int x2, .int x3]) ++ List.replicate (5 - (lg_sl ([.ref (a 0), .int x1, .int x2, .int x3])).length) Slot.unset).toArray = ls at hl ⊢
  exact b_main _ _ _ hP hD hS hl

set_option maxRecDepth 100000 in
set_option maxHeartbeats 4000000 in
theorem m_X3_isMissing {x0 : Nat}  {u u' : Mem} {r : Int32} (hx0 : x0 < 4) (hF : F_X3_isMissing x0 u  = some (r, u')) : MC l D cc a tU adK adV yX3_isMissing cX3_isMissing 1 (some .boolean) 0 0 [.ref (a (x0 + 19))] u (some (.int r)) u' := by
  refine MM.ofW (by decide) (fun p e s m below meth c S hr hlocks hK hEs hP hD hS => ?_)
  have S : CallFix p m c cX3_isMissing 1 s _ gtbl RX3 := S
  obtain ⟨hx, hb, hml, hown, hts⟩ := id S
  have b12 : ∀  (u : Mem) (y0 : Int32) , F_X3_isMissing_12  u y0 = some (r, u') → BW p l e s m below meth c 0 0 [.ref (a (x0 + 19))] D (AC a) (some (.int r)) (wlC cc a u') 1 (wlC cc a u) 12 [] [.int y0] := by
    intro  u y0 hF H locs ls hP hD hS hl
    unfold F_X3_isMissing_12 at hF
    obtain ⟨hz1, hF⟩ := gz_some hF
    obtain ⟨rfl, rfl⟩ := sp_eq hF
    exact retZ S hr hlocks hP hD hS hz1 dX3_isMissing_12
  unfold F_X3_isMissing at hF
  have b_main : BW p l e s m below meth c 0 0 [.ref (a (x0 + 19))] D (AC a) (some (.int r)) (wlC cc a u') 1 (wlC cc a u) 0 [(0, .ref (a (x0 + 19)))] [] := by
    intro H locs ls hP hD hS hl
    refine lv_aload_n hx hb dX3_isMissing_0 rfl (lv_at hl 0 rfl) ?_
    refine va_get_w S hK hP _ (c_SH hx0) rfl igX3 1 (by decide) q247 rfl rfl dX3_isMissing_1 ?_
    refine lv_if_ne (tgt := 11) hx hb dX3_isMissing_4 (by decide) (fun c2 => ?_) (fun c2 => ?_)
    · have hF := ite_f hF c2
      refine lv_iconst (v := 0) hx hb dX3_isMissing_11 (by decide) ?_
      exact b12 _ _  hF H locs ls hP hD hS (lv_sub hl [] rfl)
    · have hF := ite_t hF c2
      refine lv_iconst (v := 1) hx hb dX3_isMissing_7 (by decide) ?_
      refine lv_goto (tgt := 12) hx hb dX3_isMissing_8 (by decide) ?_
      exact b12 _ _  hF H locs ls hP hD hS (lv_sub hl [] rfl)
  have hl := lv_entry ([.ref (a (x0 + 19))]) (n := 1) (Nat.le_of_ble_eq_true rfl)
  rw [lg_entry_eq]
  generalize (lg_sl ([.ref (a (x0 + 19))]) ++ List.replicate (1 - (lg_sl ([.ref (a (x0 + 19))])).length) Slot.unset).toArray = ls at hl ⊢
  exact b_main _ _ _ hP hD hS hl

set_option maxRecDepth 100000 in
set_option maxHeartbeats 4000000 in
theorem m_X3_lowest {x0 : Nat} {x1 : Int64} {u u' : Mem} {r : Int64} (hx0 : x0 < 4) (hF : F_X3_lowest x0 u x1 = some (r, u')) : MC l D cc a tU adK adV yX3_lowest cX3_lowest 3 (some .long) 0 0 [.ref (a (x0 + 19)), .long x1] u (some (.long r)) u' := by
  refine MM.ofW (by decide) (fun p e s m below meth c S hr hlocks hK hEs hP hD hS => ?_)
  have S : CallFix p m c cX3_lowest 3 s _ gtbl RX3 := S
  obtain ⟨hx, hb, hml, hown, hts⟩ := id S
  have b31 : ∀  (u : Mem) (y0 : Int64) , F_X3_lowest_31  u y0 = some (r, u') → BW p l e s m below meth c 0 0 [.ref (a (x0 + 19)), .long x1] D (AC a) (some (.long r)) (wlC cc a u') 3 (wlC cc a u) 31 [] [.long y0] := by
    intro  u y0 hF H locs ls hP hD hS hl
    unfold F_X3_lowest_31 at hF
    obtain ⟨rfl, rfl⟩ := sp_eq hF
    exact retL S hr hlocks hP hD hS dX3_lowest_31
  unfold F_X3_lowest at hF
  have b_main : BW p l e s m below meth c 0 0 [.ref (a (x0 + 19)), .long x1] D (AC a) (some (.long r)) (wlC cc a u') 3 (wlC cc a u) 0 [(0, .ref (a (x0 + 19))), (1, .long x1)] [] := by
    intro H locs ls hP hD hS hl
    refine lv_aload_n hx hb dX3_lowest_0 rfl (lv_at hl 0 rfl) ?_
    refine va_get_w S hK hP _ (c_SH hx0) rfl igX3 1 (by decide) q247 rfl rfl dX3_lowest_1 ?_
    refine lv_bipush (v := 8) hx hb dX3_lowest_4 (by decide) ?_
    refine lv_icmp_ne (tgt := 14) hx hb dX3_lowest_6 (by decide) (fun c1 => ?_) (fun c1 => ?_)
    · have hF := ite_f hF c1
      refine lv_aload_n hx hb dX3_lowest_14 rfl (lv_at hl 0 rfl) ?_
      refine va_get_w S hK hP _ (c_SH hx0) rfl igX3 1 (by decide) q247 rfl rfl dX3_lowest_15 ?_
      refine lv_bipush (v := 16) hx hb dX3_lowest_18 (by decide) ?_
      refine lv_icmp_ne (tgt := 30) hx hb dX3_lowest_20 (by decide) (fun c2 => ?_) (fun c2 => ?_)
      · have hF := ite_f hF c2
        refine lv_lload_n hx hb dX3_lowest_30 rfl (lv_at hl 1 rfl) ?_
        exact b31 _ _  hF H locs ls hP hD hS (lv_sub hl [] rfl)
      · have hF := ite_t hF c2
        refine lv_lload_n hx hb dX3_lowest_23 rfl (lv_at hl 1 rfl) ?_
        refine lv_l2i hx hb dX3_lowest_24 rfl ?_
        refine lv_i2s hx hb dX3_lowest_25 rfl ?_
        refine lv_i2l hx hb dX3_lowest_26 rfl ?_
        refine lv_goto (tgt := 31) hx hb dX3_lowest_27 (by decide) ?_
        exact b31 _ _  hF H locs ls hP hD hS (lv_sub hl [] rfl)
    · have hF := ite_t hF c1
      refine lv_lload_n hx hb dX3_lowest_9 rfl (lv_at hl 1 rfl) ?_
      refine lv_l2i hx hb dX3_lowest_10 rfl ?_
      refine lv_i2b hx hb dX3_lowest_11 rfl ?_
      refine lv_i2l hx hb dX3_lowest_12 rfl ?_
      obtain ⟨rfl, rfl⟩ := sp_eq hF
      exact retL S hr hlocks hP hD hS dX3_lowest_13
  have hl := lv_entry ([.ref (a (x0 + 19)), .long x1]) (n := 3) (Nat.le_of_ble_eq_true rfl)
  rw [lg_entry_eq]
  generalize (lg_sl ([.ref (a (x0 + 19)), .long x1]) ++ List.replicate (3 - (lg_sl ([.ref (a (x0 + 19)), .long x1])).length) Slot.unset).toArray = ls at hl ⊢
  exact b_main _ _ _ hP hD hS hl

set_option maxRecDepth 100000 in
set_option maxHeartbeats 4000000 in
theorem m_X3_put {x0 : Nat} {x1 : Int32} {x2 : Int64} {u u' : Mem} (hx0 : x0 < 4) (hF : F_X3_put x0 u x1 x2 = some u') : MC l D cc a tU adK adV yX3_put cX3_put 4 none 1 22 [.ref (a (x0 + 19)), .int x1, .long x2] u none u' := by
  refine MM.ofW (by decide) (fun p e s m below meth c S hr hlocks hK hEs hP hD hS => ?_)
  have S : CallFix p m c cX3_put 4 s _ gtbl RX3 := S
  obtain ⟨hx, hb, hml, hown, hts⟩ := id S
  have b23 : ∀  (u : Mem)  , F_X3_put_23  u  = some u' → BW p l e s m below meth c 1 22 [.ref (a (x0 + 19)), .int x1, .long x2] D (AC a) none (wlC cc a u') 4 (wlC cc a u) 23 [] [] := by
    intro  u  hF H locs ls hP hD hS hl
    unfold F_X3_put_23 at hF
    obtain rfl := sv_eq hF
    exact retV S hr hlocks hP hD hS dX3_put_23
  unfold F_X3_put at hF
  have b_main : BW p l e s m below meth c 1 22 [.ref (a (x0 + 19)), .int x1, .long x2] D (AC a) none (wlC cc a u') 4 (wlC cc a u) 0 [(0, .ref (a (x0 + 19))), (1, .int x1), (2, .long x2)] [] := by
    intro H locs ls hP hD hS hl
    refine lv_iload_n hx hb dX3_put_0 rfl (lv_at hl 1 rfl) ?_
    refine lv_if_lt (tgt := 23) hx hb dX3_put_1 (by decide) (fun c1 => ?_) (fun c1 => ?_)
    · have hF := ite_t hF c1
      exact b23 _  hF H locs ls hP hD hS (lv_sub hl [] rfl)
    · have hF := ite_f hF c1
      refine lv_iload_n hx hb dX3_put_4 rfl (lv_at hl 1 rfl) ?_
      refine lv_aload_n hx hb dX3_put_5 rfl (lv_at hl 0 rfl) ?_
      refine va_get_w S hK hP _ (c_SH hx0) rfl igX3 2 (by decide) q249 rfl rfl dX3_put_6 ?_
      refine lv_icmp_ge (tgt := 23) hx hb dX3_put_9 (by decide) (fun c2 => ?_) (fun c2 => ?_)
      · have hF := ite_t hF c2
        exact b23 _  hF H locs ls hP hD hS (lv_sub hl [] rfl)
      · have hF := ite_f hF c2
        refine lv_aload_n hx hb dX3_put_12 rfl (lv_at hl 0 rfl) ?_
        refine va_get_w S hK hP _ (c_SH hx0) rfl igX3 0 (by decide) q245 rfl rfl dX3_put_13 ?_
        refine lv_iload_n hx hb dX3_put_16 rfl (lv_at hl 1 rfl) ?_
        refine lv_aload_n hx hb dX3_put_17 rfl (lv_at hl 0 rfl) ?_
        refine lv_lload_n hx hb dX3_put_18 rfl (lv_at hl 2 rfl) ?_
        obtain ⟨r4, u3, e5, hF⟩ := bdL_some hF
        refine MM.callVl (m_X3_lowest hx0 e5) k_X3_22 S ecOK hEs hK ⟨by decide, by decide⟩ (va_recv hK hP rfl (c_SH hx0)) rfl rfl hl.1 (Nat.le_of_ble_eq_true rfl) dX3_put_19 ⟨Nat.le_refl _, Nat.le_refl _⟩ hP hD hS (fun H locs hP hD hS => ?_)
        obtain ⟨hin6, hF⟩ := gd_some hF
        refine cLast S hK hP hD hS hx0 hin6 dX3_put_22 (fun H locs hP hD hS => ?_)
        exact b23 _  hF H locs ls hP hD hS (lv_sub hl [] rfl)
  have hl := lv_entry ([.ref (a (x0 + 19)), .int x1, .long x2]) (n := 4) (Nat.le_of_ble_eq_true rfl)
  rw [lg_entry_eq]
  generalize (lg_sl ([.ref (a (x0 + 19)), .int x1, .long x2]) ++ List.replicate (4 - (lg_sl ([.ref (a (x0 + 19)), .int x1, .long x2])).length) Slot.unset).toArray = ls at hl ⊢
  exact b_main _ _ _ hP hD hS hl

set_option maxRecDepth 100000 in
set_option maxHeartbeats 4000000 in
theorem m_X6_write  {x1 : Int32} {x2 : Int32} {x3 : Int64} {u u' : Mem} {r : Int64}  (hF : F_X6_write  u x1 x2 x3 = some (r, u')) : MC l D cc a tU adK adV yX6_write cX6_write 8 (some .long) 2 45 [.ref (a 0), .int x1, .int x2, .long x3] u (some (.long r)) u' := by
  refine MM.ofW (by decide) (fun p e s m below meth c S hr hlocks hK hEs hP hD hS => ?_)
  have S : CallFix p m c cX6_write 8 s _ gtbl RX6 := S
  obtain ⟨hx, hb, hml, hown, hts⟩ := id S
  have b52 : ∀  (u : Mem)  , F_X6_write_52  u  = some (r, u') → BW p l e s m below meth c 2 45 [.ref (a 0), .int x1, .int x2, .long x3] D (AC a) (some (.long r)) (wlC cc a u') 8 (wlC cc a u) 52 [(0, .ref (a 0))] [] := by
    intro  u  hF H locs ls hP hD hS hl
    unfold F_X6_write_52 at hF
    refine lv_aload_n hx hb dX6_write_52 rfl (lv_at hl 0 rfl) ?_
    refine lv_ldc hx hb hown (hts _ q291) dX6_write_53 ?_
    obtain ⟨r2, u1, e3, hF⟩ := bdI_some hF
    refine MM.callVi (m_X6_found e3) k_X6_64 S ecOK hEs hK ⟨by decide, by decide⟩ (va_recv hK hP rfl c_SP) rfl rfl hl.1 (Nat.le_of_ble_eq_true rfl) dX6_write_55 ⟨Nat.le_refl _, Nat.le_refl _⟩ hP hD hS (fun H locs hP hD hS => ?_)
    refine lv_i2l hx hb dX6_write_58 rfl ?_
    obtain ⟨rfl, rfl⟩ := sp_eq hF
    exact retL S hr hlocks hP hD hS dX6_write_59
  unfold F_X6_write at hF
  have b_main : BW p l e s m below meth c 2 45 [.ref (a 0), .int x1, .int x2, .long x3] D (AC a) (some (.long r)) (wlC cc a u') 8 (wlC cc a u) 0 [(0, .ref (a 0)), (1, .int x1), (2, .int x2), (3, .long x3)] [] := by
    intro H locs ls hP hD hS hl
    refine lv_iload_n hx hb dX6_write_0 rfl (lv_at hl 1 rfl) ?_
    obtain ⟨r5, u4, e6, hF⟩ := bdI_some hF
    refine MM.callSi (m_X6_isSheet e6) k_X6_224 S ecOK hEs hK ⟨by decide, by decide⟩ rfl rfl hl.1 (Nat.le_of_ble_eq_true rfl) dX6_write_1 ⟨Nat.le_refl _, Nat.le_refl _⟩ hP hD hS (fun H locs hP hD hS => ?_)
    refine lv_if_ne (tgt := 15) hx hb dX6_write_4 (by decide) (fun c7 => ?_) (fun c7 => ?_)
    · have hF := ite_f hF c7
      refine lv_aload_n hx hb dX6_write_15 rfl (lv_at hl 0 rfl) ?_
      refine va_get_w S hK hP _ c_SP rfl igX6 5 (by decide) q264 rfl rfl dX6_write_16 ?_
      refine lv_iload_n hx hb dX6_write_19 rfl (lv_at hl 1 rfl) ?_
      obtain ⟨hin8, hF⟩ := gd_some hF
      refine cSald S hK hP hin8 dX6_write_20 ?_
      refine lv_astore (lv' := [(5, .ref _), (0, .ref _), (1, .int _), (2, .int _), (3, .long _)]) hx hb dX6_write_21 hl (by decide) rfl (fun ls hl => ?_)
      refine lv_aload hx hb dX6_write_23 (lv_at hl 0 rfl) ?_
      obtain ⟨r10, u9, e11, hF⟩ := bdI_some hF
      refine MM.callVi (m_X3_isMissing (vp_lt hin8) e11) k_X6_234 S ecOK hEs hK ⟨by decide, by decide⟩ (va_recv hK hP rfl (c_SH (vp_lt hin8))) rfl rfl hl.1 (Nat.le_of_ble_eq_true rfl) dX6_write_25 ⟨Nat.le_refl _, Nat.le_refl _⟩ hP hD hS (fun H locs hP hD hS => ?_)
      refine lv_if_eq (tgt := 39) hx hb dX6_write_28 (by decide) (fun c12 => ?_) (fun c12 => ?_)
      · have hF := ite_t hF c12
        refine lv_iload_n hx hb dX6_write_39 rfl (lv_at hl 3 rfl) ?_
        refine lv_if_lt (tgt := 52) hx hb dX6_write_40 (by decide) (fun c13 => ?_) (fun c13 => ?_)
        · have hF := ite_t hF c13
          exact b52 _  hF H locs ls hP hD hS (lv_sub hl [1] rfl)
        · have hF := ite_f hF c13
          refine lv_iload_n hx hb dX6_write_43 rfl (lv_at hl 3 rfl) ?_
          refine lv_aload hx hb dX6_write_44 (lv_at hl 0 rfl) ?_
          refine va_get_w S hK hP _ (c_SH (vp_lt hin8)) rfl igX3 2 (by decide) q250 rfl rfl dX6_write_46 ?_
          refine lv_icmp_lt (tgt := 60) hx hb dX6_write_49 (by decide) (fun c14 => ?_) (fun c14 => ?_)
          · have hF := ite_t hF c14
            refine lv_aload hx hb dX6_write_60 (lv_at hl 0 rfl) ?_
            refine va_get_w S hK hP _ (c_SH (vp_lt hin8)) rfl igX3 0 (by decide) q246 rfl rfl dX6_write_62 ?_
            refine lv_iload_n hx hb dX6_write_65 rfl (lv_at hl 3 rfl) ?_
            obtain ⟨hin15, hF⟩ := gd_some hF
            refine cLald S hK hP (vp_lt hin8) hin15 dX6_write_66 ?_
            refine lv_lstore (lv' := [(6, .long _), (5, .ref _), (0, .ref _), (1, .int _), (2, .int _), (3, .long _)]) hx hb dX6_write_67 hl (by decide) rfl (fun ls hl => ?_)
            refine lv_aload hx hb dX6_write_69 (lv_at hl 1 rfl) ?_
            refine lv_iload_n hx hb dX6_write_71 rfl (lv_at hl 4 rfl) ?_
            refine lv_lload_n hx hb dX6_write_72 rfl (lv_at hl 5 rfl) ?_
            obtain ⟨u16, e18, hF⟩ := bdV_some hF
            refine MM.callVv (m_X3_put (vp_lt hin8) e18) k_X6_243 S ecOK hEs hK ⟨by decide, by decide⟩ (va_recv hK hP rfl (c_SH (vp_lt hin8))) rfl rfl hl.1 (Nat.le_of_ble_eq_true rfl) dX6_write_73 ⟨Nat.le_refl _, Nat.le_refl _⟩ hP hD hS (fun H locs hP hD hS => ?_)
            refine lv_lload hx hb dX6_write_76 (lv_at hl 0 rfl) ?_
            obtain ⟨rfl, rfl⟩ := sp_eq hF
            exact retL S hr hlocks hP hD hS dX6_write_78
          · have hF := ite_f hF c14
            exact b52 _  hF H locs ls hP hD hS (lv_sub hl [1] rfl)
      · have hF := ite_f hF c12
        refine lv_aload_n hx hb dX6_write_31 rfl (lv_at hl 1 rfl) ?_
        refine lv_ldc hx hb hown (hts _ q804) dX6_write_32 ?_
        obtain ⟨r20, u19, e21, hF⟩ := bdI_some hF
        refine MM.callVi (m_X6_found e21) k_X6_64 S ecOK hEs hK ⟨by decide, by decide⟩ (va_recv hK hP rfl c_SP) rfl rfl hl.1 (Nat.le_of_ble_eq_true rfl) dX6_write_34 ⟨Nat.le_refl _, Nat.le_refl _⟩ hP hD hS (fun H locs hP hD hS => ?_)
        refine lv_i2l hx hb dX6_write_37 rfl ?_
        obtain ⟨rfl, rfl⟩ := sp_eq hF
        exact retL S hr hlocks hP hD hS dX6_write_38
    · have hF := ite_t hF c7
      refine lv_aload_n hx hb dX6_write_7 rfl (lv_at hl 0 rfl) ?_
      refine lv_ldc hx hb hown (hts _ q291) dX6_write_8 ?_
      obtain ⟨r23, u22, e24, hF⟩ := bdI_some hF
      refine MM.callVi (m_X6_found e24) k_X6_64 S ecOK hEs hK ⟨by decide, by decide⟩ (va_recv hK hP rfl c_SP) rfl rfl hl.1 (Nat.le_of_ble_eq_true rfl) dX6_write_10 ⟨Nat.le_refl _, Nat.le_refl _⟩ hP hD hS (fun H locs hP hD hS => ?_)
      refine lv_i2l hx hb dX6_write_13 rfl ?_
      obtain ⟨rfl, rfl⟩ := sp_eq hF
      exact retL S hr hlocks hP hD hS dX6_write_14
  have hl := lv_entry ([.ref (a 0), .int x1, .int x2, .long x3]) (n := 8) (Nat.le_of_ble_eq_true rfl)
  rw [lg_entry_eq]
  generalize (lg_sl ([.ref (a 0), .int x1, .int x2, .long x3]) ++ List.replicate (8 - (lg_sl ([.ref (a 0), .int x1, .int x2, .long x3])).length) Slot.unset).toArray = ls at hl ⊢
  exact b_main _ _ _ hP hD hS hl

set_option maxRecDepth 100000 in
set_option maxHeartbeats 4000000 in
theorem m_X3_hasRun {x0 : Nat} {x1 : Int32} {x2 : Int32} {u u' : Mem} {r : Int32} (hx0 : x0 < 4) (hF : F_X3_hasRun x0 u x1 x2 = some (r, u')) : MC l D cc a tU adK adV yX3_hasRun cX3_hasRun 3 (some .boolean) 0 0 [.ref (a (x0 + 19)), .int x1, .int x2] u (some (.int r)) u' := by
  refine MM.ofW (by decide) (fun p e s m below meth c S hr hlocks hK hEs hP hD hS => ?_)
  have S : CallFix p m c cX3_hasRun 3 s _ gtbl RX3 := S
  obtain ⟨hx, hb, hml, hown, hts⟩ := id S
  have b31 : ∀  (u : Mem) (y0 : Int32) , F_X3_hasRun_31  u y0 = some (r, u') → BW p l e s m below meth c 0 0 [.ref (a (x0 + 19)), .int x1, .int x2] D (AC a) (some (.int r)) (wlC cc a u') 3 (wlC cc a u) 31 [] [.int y0] := by
    intro  u y0 hF H locs ls hP hD hS hl
    unfold F_X3_hasRun_31 at hF
    obtain ⟨hz1, hF⟩ := gz_some hF
    obtain ⟨rfl, rfl⟩ := sp_eq hF
    exact retZ S hr hlocks hP hD hS hz1 dX3_hasRun_31
  have b30 : ∀  (u : Mem)  , F_X3_hasRun_30  u  = some (r, u') → BW p l e s m below meth c 0 0 [.ref (a (x0 + 19)), .int x1, .int x2] D (AC a) (some (.int r)) (wlC cc a u') 3 (wlC cc a u) 30 [] [] := by
    intro  u  hF H locs ls hP hD hS hl
    unfold F_X3_hasRun_30 at hF
    refine lv_iconst (v := 0) hx hb dX3_hasRun_30 (by decide) ?_
    exact b31 _ _  hF H locs ls hP hD hS (lv_sub hl [] rfl)
  unfold F_X3_hasRun at hF
  have b_main : BW p l e s m below meth c 0 0 [.ref (a (x0 + 19)), .int x1, .int x2] D (AC a) (some (.int r)) (wlC cc a u') 3 (wlC cc a u) 0 [(0, .ref (a (x0 + 19))), (1, .int x1), (2, .int x2)] [] := by
    intro H locs ls hP hD hS hl
    refine lv_iload_n hx hb dX3_hasRun_0 rfl (lv_at hl 1 rfl) ?_
    refine lv_if_lt (tgt := 30) hx hb dX3_hasRun_1 (by decide) (fun c2 => ?_) (fun c2 => ?_)
    · have hF := ite_t hF c2
      exact b30 _  hF H locs ls hP hD hS (lv_sub hl [] rfl)
    · have hF := ite_f hF c2
      refine lv_iload_n hx hb dX3_hasRun_4 rfl (lv_at hl 2 rfl) ?_
      refine lv_if_lt (tgt := 30) hx hb dX3_hasRun_5 (by decide) (fun c3 => ?_) (fun c3 => ?_)
      · have hF := ite_t hF c3
        exact b30 _  hF H locs ls hP hD hS (lv_sub hl [] rfl)
      · have hF := ite_f hF c3
        refine lv_iload_n hx hb dX3_hasRun_8 rfl (lv_at hl 1 rfl) ?_
        refine lv_aload_n hx hb dX3_hasRun_9 rfl (lv_at hl 0 rfl) ?_
        refine va_get_w S hK hP _ (c_SH hx0) rfl igX3 2 (by decide) q249 rfl rfl dX3_hasRun_10 ?_
        refine lv_icmp_gt (tgt := 30) hx hb dX3_hasRun_13 (by decide) (fun c4 => ?_) (fun c4 => ?_)
        · have hF := ite_t hF c4
          exact b30 _  hF H locs ls hP hD hS (lv_sub hl [] rfl)
        · have hF := ite_f hF c4
          refine lv_iload_n hx hb dX3_hasRun_16 rfl (lv_at hl 2 rfl) ?_
          refine lv_aload_n hx hb dX3_hasRun_17 rfl (lv_at hl 0 rfl) ?_
          refine va_get_w S hK hP _ (c_SH hx0) rfl igX3 2 (by decide) q249 rfl rfl dX3_hasRun_18 ?_
          refine lv_iload_n hx hb dX3_hasRun_21 rfl (lv_at hl 1 rfl) ?_
          refine lv_isub hx hb dX3_hasRun_22 ?_
          refine lv_icmp_gt (tgt := 30) hx hb dX3_hasRun_23 (by decide) (fun c5 => ?_) (fun c5 => ?_)
          · have hF := ite_t hF c5
            exact b30 _  hF H locs ls hP hD hS (lv_sub hl [] rfl)
          · have hF := ite_f hF c5
            refine lv_iconst (v := 1) hx hb dX3_hasRun_26 (by decide) ?_
            refine lv_goto (tgt := 31) hx hb dX3_hasRun_27 (by decide) ?_
            exact b31 _ _  hF H locs ls hP hD hS (lv_sub hl [] rfl)
  have hl := lv_entry ([.ref (a (x0 + 19)), .int x1, .int x2]) (n := 3) (Nat.le_of_ble_eq_true rfl)
  rw [lg_entry_eq]
  generalize (lg_sl ([.ref (a (x0 + 19)), .int x1, .int x2]) ++ List.replicate (3 - (lg_sl ([.ref (a (x0 + 19)), .int x1, .int x2])).length) Slot.unset).toArray = ls at hl ⊢
  exact b_main _ _ _ hP hD hS hl

set_option maxRecDepth 100000 in
set_option maxHeartbeats 4000000 in
theorem m_X6_copy  {x1 : Int32} {x2 : Int32} {x3 : Int32} {x4 : Int32} {x5 : Int32} {u u' : Mem} {r : Int32}  (hF : F_X6_copy  u x1 x2 x3 x4 x5 = some (r, u')) : MC l D cc a tU adK adV yX6_copy cX6_copy 8 (some .int) 1 80 [.ref (a 0), .int x1, .int x2, .int x3, .int x4, .int x5] u (some (.int r)) u' := by
  refine MM.ofW (by decide) (fun p e s m below meth c S hr hlocks hK hEs hP hD hS => ?_)
  have S : CallFix p m c cX6_copy 8 s _ gtbl RX6 := S
  obtain ⟨hx, hb, hml, hown, hts⟩ := id S
  have b14 : ∀  (u : Mem)  , F_X6_copy_14  u  = some (r, u') → BW p l e s m below meth c 1 80 [.ref (a 0), .int x1, .int x2, .int x3, .int x4, .int x5] D (AC a) (some (.int r)) (wlC cc a u') 8 (wlC cc a u) 14 [(0, .ref (a 0))] [] := by
    intro  u  hF H locs ls hP hD hS hl
    unfold F_X6_copy_14 at hF
    refine lv_aload_n hx hb dX6_copy_14 rfl (lv_at hl 0 rfl) ?_
    refine lv_ldc hx hb hown (hts _ q291) dX6_copy_15 ?_
    obtain ⟨r2, u1, e3, hF⟩ := bdI_some hF
    refine MM.callVi (m_X6_found e3) k_X6_64 S ecOK hEs hK ⟨by decide, by decide⟩ (va_recv hK hP rfl c_SP) rfl rfl hl.1 (Nat.le_of_ble_eq_true rfl) dX6_copy_17 ⟨Nat.le_refl _, Nat.le_refl _⟩ hP hD hS (fun H locs hP hD hS => ?_)
    obtain ⟨rfl, rfl⟩ := sp_eq hF
    exact retI S hr hlocks hP hD hS dX6_copy_20
  have b53 : ∀  (u : Mem)  , F_X6_copy_53  u  = some (r, u') → BW p l e s m below meth c 1 80 [.ref (a 0), .int x1, .int x2, .int x3, .int x4, .int x5] D (AC a) (some (.int r)) (wlC cc a u') 8 (wlC cc a u) 53 [(0, .ref (a 0))] [] := by
    intro  u  hF H locs ls hP hD hS hl
    unfold F_X6_copy_53 at hF
    refine lv_aload_n hx hb dX6_copy_53 rfl (lv_at hl 0 rfl) ?_
    refine lv_ldc hx hb hown (hts _ q804) dX6_copy_54 ?_
    obtain ⟨r5, u4, e6, hF⟩ := bdI_some hF
    refine MM.callVi (m_X6_found e6) k_X6_64 S ecOK hEs hK ⟨by decide, by decide⟩ (va_recv hK hP rfl c_SP) rfl rfl hl.1 (Nat.le_of_ble_eq_true rfl) dX6_copy_56 ⟨Nat.le_refl _, Nat.le_refl _⟩ hP hD hS (fun H locs hP hD hS => ?_)
    obtain ⟨rfl, rfl⟩ := sp_eq hF
    exact retI S hr hlocks hP hD hS dX6_copy_59
  have b103 : ∀  (u : Mem)  , F_X6_copy_103  u  = some (r, u') → BW p l e s m below meth c 1 80 [.ref (a 0), .int x1, .int x2, .int x3, .int x4, .int x5] D (AC a) (some (.int r)) (wlC cc a u') 8 (wlC cc a u) 103 [(0, .ref (a 0))] [] := by
    intro  u  hF H locs ls hP hD hS hl
    unfold F_X6_copy_103 at hF
    refine lv_aload_n hx hb dX6_copy_103 rfl (lv_at hl 0 rfl) ?_
    refine lv_ldc hx hb hown (hts _ q291) dX6_copy_104 ?_
    obtain ⟨r8, u7, e9, hF⟩ := bdI_some hF
    refine MM.callVi (m_X6_found e9) k_X6_64 S ecOK hEs hK ⟨by decide, by decide⟩ (va_recv hK hP rfl c_SP) rfl rfl hl.1 (Nat.le_of_ble_eq_true rfl) dX6_copy_106 ⟨Nat.le_refl _, Nat.le_refl _⟩ hP hD hS (fun H locs hP hD hS => ?_)
    obtain ⟨rfl, rfl⟩ := sp_eq hF
    exact retI S hr hlocks hP hD hS dX6_copy_109
  unfold F_X6_copy at hF
  have b_main : BW p l e s m below meth c 1 80 [.ref (a 0), .int x1, .int x2, .int x3, .int x4, .int x5] D (AC a) (some (.int r)) (wlC cc a u') 8 (wlC cc a u) 0 [(0, .ref (a 0)), (1, .int x1), (2, .int x2), (3, .int x3), (4, .int x4), (5, .int x5)] [] := by
    intro H locs ls hP hD hS hl
    refine lv_iload_n hx hb dX6_copy_0 rfl (lv_at hl 1 rfl) ?_
    obtain ⟨r11, u10, e12, hF⟩ := bdI_some hF
    refine MM.callSi (m_X6_isSheet e12) k_X6_224 S ecOK hEs hK ⟨by decide, by decide⟩ rfl rfl hl.1 (Nat.le_of_ble_eq_true rfl) dX6_copy_1 ⟨Nat.le_refl _, Nat.le_refl _⟩ hP hD hS (fun H locs hP hD hS => ?_)
    refine lv_if_eq (tgt := 14) hx hb dX6_copy_4 (by decide) (fun c13 => ?_) (fun c13 => ?_)
    · have hF := ite_t hF c13
      exact b14 _  hF H locs ls hP hD hS (lv_sub hl [0] rfl)
    · have hF := ite_f hF c13
      refine lv_iload_n hx hb dX6_copy_7 rfl (lv_at hl 3 rfl) ?_
      obtain ⟨r15, u14, e16, hF⟩ := bdI_some hF
      refine MM.callSi (m_X6_isSheet e16) k_X6_224 S ecOK hEs hK ⟨by decide, by decide⟩ rfl rfl hl.1 (Nat.le_of_ble_eq_true rfl) dX6_copy_8 ⟨Nat.le_refl _, Nat.le_refl _⟩ hP hD hS (fun H locs hP hD hS => ?_)
      refine lv_if_ne (tgt := 21) hx hb dX6_copy_11 (by decide) (fun c17 => ?_) (fun c17 => ?_)
      · have hF := ite_f hF c17
        refine lv_aload_n hx hb dX6_copy_21 rfl (lv_at hl 0 rfl) ?_
        refine va_get_w S hK hP _ c_SP rfl igX6 5 (by decide) q264 rfl rfl dX6_copy_22 ?_
        refine lv_iload_n hx hb dX6_copy_25 rfl (lv_at hl 1 rfl) ?_
        obtain ⟨hin18, hF⟩ := gd_some hF
        refine cSald S hK hP hin18 dX6_copy_26 ?_
        refine lv_astore (lv' := [(6, .ref _), (0, .ref _), (1, .int _), (2, .int _), (3, .int _), (4, .int _), (5, .int _)]) hx hb dX6_copy_27 hl (by decide) rfl (fun ls hl => ?_)
        refine lv_aload_n hx hb dX6_copy_29 rfl (lv_at hl 1 rfl) ?_
        refine va_get_w S hK hP _ c_SP rfl igX6 5 (by decide) q264 rfl rfl dX6_copy_30 ?_
        refine lv_iload_n hx hb dX6_copy_33 rfl (lv_at hl 4 rfl) ?_
        obtain ⟨hin19, hF⟩ := gd_some hF
        refine cSald S hK hP hin19 dX6_copy_34 ?_
        refine lv_astore (lv' := [(7, .ref _), (6, .ref _), (0, .ref _), (1, .int _), (2, .int _), (3, .int _), (4, .int _), (5, .int _)]) hx hb dX6_copy_35 hl (by decide) rfl (fun ls hl => ?_)
        refine lv_aload hx hb dX6_copy_37 (lv_at hl 1 rfl) ?_
        obtain ⟨r21, u20, e22, hF⟩ := bdI_some hF
        refine MM.callVi (m_X3_isMissing (vp_lt hin18) e22) k_X6_234 S ecOK hEs hK ⟨by decide, by decide⟩ (va_recv hK hP rfl (c_SH (vp_lt hin18))) rfl rfl hl.1 (Nat.le_of_ble_eq_true rfl) dX6_copy_39 ⟨Nat.le_refl _, Nat.le_refl _⟩ hP hD hS (fun H locs hP hD hS => ?_)
        refine lv_if_ne (tgt := 53) hx hb dX6_copy_42 (by decide) (fun c23 => ?_) (fun c23 => ?_)
        · have hF := ite_f hF c23
          exact b53 _  hF H locs ls hP hD hS (lv_sub hl [2] rfl)
        · have hF := ite_t hF c23
          refine lv_aload hx hb dX6_copy_45 (lv_at hl 0 rfl) ?_
          obtain ⟨r25, u24, e26, hF⟩ := bdI_some hF
          refine MM.callVi (m_X3_isMissing (vp_lt hin19) e26) k_X6_234 S ecOK hEs hK ⟨by decide, by decide⟩ (va_recv hK hP rfl (c_SH (vp_lt hin19))) rfl rfl hl.1 (Nat.le_of_ble_eq_true rfl) dX6_copy_47 ⟨Nat.le_refl _, Nat.le_refl _⟩ hP hD hS (fun H locs hP hD hS => ?_)
          refine lv_if_eq (tgt := 60) hx hb dX6_copy_50 (by decide) (fun c27 => ?_) (fun c27 => ?_)
          · have hF := ite_t hF c27
            refine lv_aload hx hb dX6_copy_60 (lv_at hl 1 rfl) ?_
            refine va_get_w S hK hP _ (c_SH (vp_lt hin18)) rfl igX3 1 (by decide) q248 rfl rfl dX6_copy_62 ?_
            refine lv_aload hx hb dX6_copy_65 (lv_at hl 0 rfl) ?_
            refine va_get_w S hK hP _ (c_SH (vp_lt hin19)) rfl igX3 1 (by decide) q248 rfl rfl dX6_copy_67 ?_
            refine lv_icmp_eq (tgt := 80) hx hb dX6_copy_70 (by decide) (fun c28 => ?_) (fun c28 => ?_)
            · have hF := ite_t hF c28
              refine lv_aload hx hb dX6_copy_80 (lv_at hl 1 rfl) ?_
              refine lv_iload_n hx hb dX6_copy_82 rfl (lv_at hl 4 rfl) ?_
              refine lv_iload hx hb dX6_copy_83 (lv_at hl 7 rfl) ?_
              obtain ⟨r30, u29, e31, hF⟩ := bdI_some hF
              refine MM.callVi (m_X3_hasRun (vp_lt hin18) e31) k_X6_250 S ecOK hEs hK ⟨by decide, by decide⟩ (va_recv hK hP rfl (c_SH (vp_lt hin18))) rfl rfl hl.1 (Nat.le_of_ble_eq_true rfl) dX6_copy_85 ⟨Nat.le_refl _, Nat.le_refl _⟩ hP hD hS (fun H locs hP hD hS => ?_)
              refine lv_if_eq (tgt := 103) hx hb dX6_copy_88 (by decide) (fun c32 => ?_) (fun c32 => ?_)
              · have hF := ite_t hF c32
                exact b103 _  hF H locs ls hP hD hS (lv_sub hl [2] rfl)
              · have hF := ite_f hF c32
                refine lv_aload hx hb dX6_copy_91 (lv_at hl 0 rfl) ?_
                refine lv_iload hx hb dX6_copy_93 (lv_at hl 6 rfl) ?_
                refine lv_iload hx hb dX6_copy_95 (lv_at hl 7 rfl) ?_
                obtain ⟨r34, u33, e35, hF⟩ := bdI_some hF
                refine MM.callVi (m_X3_hasRun (vp_lt hin19) e35) k_X6_250 S ecOK hEs hK ⟨by decide, by decide⟩ (va_recv hK hP rfl (c_SH (vp_lt hin19))) rfl rfl hl.1 (Nat.le_of_ble_eq_true rfl) dX6_copy_97 ⟨Nat.le_refl _, Nat.le_refl _⟩ hP hD hS (fun H locs hP hD hS => ?_)
                refine lv_if_ne (tgt := 110) hx hb dX6_copy_100 (by decide) (fun c36 => ?_) (fun c36 => ?_)
                · have hF := ite_f hF c36
                  refine lv_aload hx hb dX6_copy_110 (lv_at hl 1 rfl) ?_
                  refine va_get_w S hK hP _ (c_SH (vp_lt hin18)) rfl igX3 0 (by decide) q246 rfl rfl dX6_copy_112 ?_
                  refine lv_iload_n hx hb dX6_copy_115 rfl (lv_at hl 4 rfl) ?_
                  refine lv_aload hx hb dX6_copy_116 (lv_at hl 0 rfl) ?_
                  refine va_get_w S hK hP _ (c_SH (vp_lt hin19)) rfl igX3 0 (by decide) q246 rfl rfl dX6_copy_118 ?_
                  refine lv_iload hx hb dX6_copy_121 (lv_at hl 6 rfl) ?_
                  refine lv_iload hx hb dX6_copy_123 (lv_at hl 7 rfl) ?_
                  obtain ⟨hc37, hF⟩ := gc_some hF
                  refine cCopy S hl.1 (hts _ q821) (hts _ q823) (hts _ q822) (hts _ q79) hK hP hD hS (vp_lt hin18) (vp_lt hin19) hc37 (by decide) (Nat.le_of_ble_eq_true rfl) dX6_copy_125 (fun H locs hP hD hS => ?_)
                  refine lv_iload hx hb dX6_copy_128 (lv_at hl 7 rfl) ?_
                  obtain ⟨rfl, rfl⟩ := sp_eq hF
                  exact retI S hr hlocks hP hD hS dX6_copy_130
                · have hF := ite_t hF c36
                  exact b103 _  hF H locs ls hP hD hS (lv_sub hl [2] rfl)
            · have hF := ite_f hF c28
              refine lv_aload_n hx hb dX6_copy_73 rfl (lv_at hl 2 rfl) ?_
              refine lv_ldc hx hb hown (hts _ q381) dX6_copy_74 ?_
              obtain ⟨r39, u38, e40, hF⟩ := bdI_some hF
              refine MM.callVi (m_X6_found e40) k_X6_64 S ecOK hEs hK ⟨by decide, by decide⟩ (va_recv hK hP rfl c_SP) rfl rfl hl.1 (Nat.le_of_ble_eq_true rfl) dX6_copy_76 ⟨Nat.le_refl _, Nat.le_refl _⟩ hP hD hS (fun H locs hP hD hS => ?_)
              obtain ⟨rfl, rfl⟩ := sp_eq hF
              exact retI S hr hlocks hP hD hS dX6_copy_79
          · have hF := ite_f hF c27
            exact b53 _  hF H locs ls hP hD hS (lv_sub hl [2] rfl)
      · have hF := ite_t hF c17
        exact b14 _  hF H locs ls hP hD hS (lv_sub hl [0] rfl)
  have hl := lv_entry ([.ref (a 0), .int x1, .int x2, .int x3, .int x4, .int x5]) (n := 8) (Nat.le_of_ble_eq_true rfl)
  rw [lg_entry_eq]
  generalize (lg_sl ([.ref (a 0), .int x1, .int x2, .int x3, .int x4, .int x5]) ++ List.replicate (8 - (lg_sl ([.ref (a 0), .int x1, .int x2, .int x3, .int x4, .int x5])).length) Slot.unset).toArray = ls at hl ⊢
  exact b_main _ _ _ hP hD hS hl

set_option maxRecDepth 100000 in
set_option maxHeartbeats 4000000 in
theorem m_X6_dates  {x1 : Int32} {u u' : Mem} {r : Int32}  (hF : F_X6_dates  u x1 = some (r, u')) : MC l D cc a tU adK adV yX6_dates cX6_dates 7 (some .int) 1 22 [.ref (a 0), .int x1] u (some (.int r)) u' := by
  refine MM.ofW (by decide) (fun p e s m below meth c S hr hlocks hK hEs hP hD hS => ?_)
  have S : CallFix p m c cX6_dates 7 s _ gtbl RX6 := S
  obtain ⟨hx, hb, hml, hown, hts⟩ := id S
  have b111 : ∀  (u : Mem) (v3 : Int32) , F_X6_dates_111  u v3 = some (r, u') → BW p l e s m below meth c 1 22 [.ref (a 0), .int x1] D (AC a) (some (.int r)) (wlC cc a u') 7 (wlC cc a u) 111 [(3, .int v3)] [] := by
    intro  u v3 hF H locs ls hP hD hS hl
    unfold F_X6_dates_111 at hF
    refine lv_iload_n hx hb dX6_dates_111 rfl (lv_at hl 0 rfl) ?_
    obtain ⟨rfl, rfl⟩ := sp_eq hF
    exact retI S hr hlocks hP hD hS dX6_dates_112
  have b105 : ∀ (k40 : Mem → Nat → Int32 → Int32 → Option (Int32 × Mem)) (hk40 : ∀ (u : Mem) (v2 : Nat) (v3 : Int32) (v4 : Int32) (hv2 : v2 < 4), k40 u v2 v3 v4 = some (r, u') → BW p l e s m below meth c 1 22 [.ref (a 0), .int x1] D (AC a) (some (.int r)) (wlC cc a u') 7 (wlC cc a u) 40 [(0, .ref (a 0)), (2, .ref (a (v2 + 19))), (3, .int v3), (4, .int v4)] []) (u : Mem) (v2 : Nat) (v3 : Int32) (v4 : Int32) (hv2 : v2 < 4), F_X6_dates_105 k40 u v2 v3 v4 = some (r, u') → BW p l e s m below meth c 1 22 [.ref (a 0), .int x1] D (AC a) (some (.int r)) (wlC cc a u') 7 (wlC cc a u) 105 [(0, .ref (a 0)), (2, .ref (a (v2 + 19))), (3, .int v3), (4, .int v4)] [] := by
    intro k40 hk40 u v2 v3 v4 hv2 hF H locs ls hP hD hS hl
    unfold F_X6_dates_105 at hF
    refine lv_inc1 (k := 3) (lv' := [(4, .int _), (0, .ref _), (2, .ref _), (3, .int _)]) hx hb dX6_dates_105 hl rfl (by decide) rfl (fun ls hl => ?_)
    refine lv_goto (tgt := 40) hx hb dX6_dates_108 (by decide) ?_
    exact hk40 _ _ _ _ hv2 hF H locs ls hP hD hS (lv_sub hl [1, 2, 3, 0] rfl)
  have b40 : ∀ (n : Nat) (u : Mem) (v2 : Nat) (v3 : Int32) (v4 : Int32) (hv2 : v2 < 4), F_X6_dates_40  n u v2 v3 v4 = some (r, u') → BW p l e s m below meth c 1 22 [.ref (a 0), .int x1] D (AC a) (some (.int r)) (wlC cc a u') 7 (wlC cc a u) 40 [(0, .ref (a 0)), (2, .ref (a (v2 + 19))), (3, .int v3), (4, .int v4)] [] := by
    intro n
    induction n with
    | zero => intro u v2 v3 v4 hv2 hF; cases hF
    | succ n ih =>
      intro u v2 v3 v4 hv2 hF H locs ls hP hD hS hl
      unfold F_X6_dates_40 at hF
      refine lv_iload hx hb dX6_dates_40 (lv_at hl 3 rfl) ?_
      refine lv_aload_n hx hb dX6_dates_42 rfl (lv_at hl 1 rfl) ?_
      refine va_get_w S hK hP _ (c_SH hv2) rfl igX3 2 (by decide) q250 rfl rfl dX6_dates_43 ?_
      refine lv_icmp_ge (tgt := 111) hx hb dX6_dates_46 (by decide) (fun c1 => ?_) (fun c1 => ?_)
      · have hF := ite_t hF c1
        exact b111 _ _  hF H locs ls hP hD hS (lv_sub hl [2] rfl)
      · have hF := ite_f hF c1
        refine lv_iload hx hb dX6_dates_49 (lv_at hl 3 rfl) ?_
        refine lv_aload_n hx hb dX6_dates_51 rfl (lv_at hl 0 rfl) ?_
        refine va_get_w S hK hP _ c_SP rfl igX6 0 (by decide) q259 rfl rfl dX6_dates_52 ?_
        refine va_get_w S hK hP _ (c_AR ⟨by decide, by decide⟩) rfl igX0 1 (by decide) q141 rfl rfl dX6_dates_55 ?_
        refine lv_icmp_ge (tgt := 111) hx hb dX6_dates_58 (by decide) (fun c2 => ?_) (fun c2 => ?_)
        · have hF := ite_t hF c2
          exact b111 _ _  hF H locs ls hP hD hS (lv_sub hl [2] rfl)
        · have hF := ite_f hF c2
          refine lv_aload_n hx hb dX6_dates_61 rfl (lv_at hl 1 rfl) ?_
          refine va_get_w S hK hP _ (c_SH hv2) rfl igX3 0 (by decide) q246 rfl rfl dX6_dates_62 ?_
          refine lv_iload hx hb dX6_dates_65 (lv_at hl 3 rfl) ?_
          obtain ⟨hin3, hF⟩ := gd_some hF
          refine cLald S hK hP hv2 hin3 dX6_dates_67 ?_
          refine lv_lstore (lv' := [(5, .long _), (0, .ref _), (2, .ref _), (3, .int _), (4, .int _)]) hx hb dX6_dates_68 hl (by decide) rfl (fun ls hl => ?_)
          refine lv_lload hx hb dX6_dates_70 (lv_at hl 0 rfl) ?_
          refine lv_lconst (v := 0) hx hb dX6_dates_72 (by decide) ?_
          refine W.lcmp hx hb dX6_dates_73 ?_
          refine lv_if_lt (tgt := 105) hx hb dX6_dates_74 (by decide) (fun c4 => ?_) (fun c4 => ?_)
          · have hF := ite_t hF c4
            exact b105 _ ih _ _ _ _ hv2 hF H locs ls hP hD hS (lv_sub hl [1, 2, 3, 4] rfl)
          · have hF := ite_f hF c4
            refine lv_lload hx hb dX6_dates_77 (lv_at hl 0 rfl) ?_
            refine lv_ldc2 hx hb hown (hts _ q828) dX6_dates_79 ?_
            refine W.lcmp hx hb dX6_dates_82 ?_
            refine lv_if_gt (tgt := 105) hx hb dX6_dates_83 (by decide) (fun c5 => ?_) (fun c5 => ?_)
            · have hF := ite_t hF c5
              exact b105 _ ih _ _ _ _ hv2 hF H locs ls hP hD hS (lv_sub hl [1, 2, 3, 4] rfl)
            · have hF := ite_f hF c5
              refine lv_aload_n hx hb dX6_dates_86 rfl (lv_at hl 1 rfl) ?_
              refine va_get_w S hK hP _ c_SP rfl igX6 0 (by decide) q259 rfl rfl dX6_dates_87 ?_
              refine va_get_w S hK hP _ (c_AR ⟨by decide, by decide⟩) rfl igX0 0 (by decide) q135 rfl rfl dX6_dates_90 ?_
              refine lv_iload hx hb dX6_dates_93 (lv_at hl 4 rfl) ?_
              obtain ⟨hin6, hF⟩ := gd_some hF
              have hp7 := r_PR (t := 1) ⟨by decide, by decide⟩ hin6
              refine cPald S hK hP ⟨by decide, by decide⟩ hin6 dX6_dates_95 ?_
              refine lv_lload hx hb dX6_dates_96 (lv_at hl 0 rfl) ?_
              refine lv_l2i hx hb dX6_dates_98 rfl ?_
              refine va_put_w S igX1 tyX1 tyX1_ok nmX1 hK hP hD hS _ (c_PR hp7) rfl 2 (by decide) q110 rfl rfl (tyX1_ok 2 (by decide)) rfl rfl (Nat.le_of_ble_eq_true rfl) (z_PRi hp7 (by decide)) dX6_dates_99 (fun H locs hP hD hS => ?_)
              obtain ⟨u8, e9, hF⟩ := bdV_some hF
              obtain rfl := sv_eq e9
              refine lv_inc1 (k := 3) (lv' := [(3, .int _), (5, .long _), (0, .ref _), (2, .ref _), (4, .int _)]) hx hb dX6_dates_102 hl rfl (by decide) rfl (fun ls hl => ?_)
              exact b105 _ ih _ _ _ _ hv2 hF H locs ls hP hD hS (lv_sub hl [2, 3, 0, 4] rfl)
  unfold F_X6_dates at hF
  have b_main : BW p l e s m below meth c 1 22 [.ref (a 0), .int x1] D (AC a) (some (.int r)) (wlC cc a u') 7 (wlC cc a u) 0 [(0, .ref (a 0)), (1, .int x1)] [] := by
    intro H locs ls hP hD hS hl
    refine lv_iload_n hx hb dX6_dates_0 rfl (lv_at hl 1 rfl) ?_
    obtain ⟨r11, u10, e12, hF⟩ := bdI_some hF
    refine MM.callSi (m_X6_isSheet e12) k_X6_224 S ecOK hEs hK ⟨by decide, by decide⟩ rfl rfl hl.1 (Nat.le_of_ble_eq_true rfl) dX6_dates_1 ⟨Nat.le_refl _, Nat.le_refl _⟩ hP hD hS (fun H locs hP hD hS => ?_)
    refine lv_if_ne (tgt := 14) hx hb dX6_dates_4 (by decide) (fun c13 => ?_) (fun c13 => ?_)
    · have hF := ite_f hF c13
      refine lv_aload_n hx hb dX6_dates_14 rfl (lv_at hl 0 rfl) ?_
      refine va_get_w S hK hP _ c_SP rfl igX6 5 (by decide) q264 rfl rfl dX6_dates_15 ?_
      refine lv_iload_n hx hb dX6_dates_18 rfl (lv_at hl 1 rfl) ?_
      obtain ⟨hin14, hF⟩ := gd_some hF
      refine cSald S hK hP hin14 dX6_dates_19 ?_
      refine lv_astore_n (lv' := [(2, .ref _), (0, .ref _), (1, .int _)]) hx hb dX6_dates_20 rfl hl (by decide) rfl (fun ls hl => ?_)
      refine lv_aload_n hx hb dX6_dates_21 rfl (lv_at hl 0 rfl) ?_
      obtain ⟨r16, u15, e17, hF⟩ := bdI_some hF
      refine MM.callVi (m_X3_isMissing (vp_lt hin14) e17) k_X6_234 S ecOK hEs hK ⟨by decide, by decide⟩ (va_recv hK hP rfl (c_SH (vp_lt hin14))) rfl rfl hl.1 (Nat.le_of_ble_eq_true rfl) dX6_dates_22 ⟨Nat.le_refl _, Nat.le_refl _⟩ hP hD hS (fun H locs hP hD hS => ?_)
      refine lv_if_eq (tgt := 35) hx hb dX6_dates_25 (by decide) (fun c18 => ?_) (fun c18 => ?_)
      · have hF := ite_t hF c18
        refine lv_iconst (v := 0) hx hb dX6_dates_35 (by decide) ?_
        refine lv_istore_n (lv' := [(3, .int _), (2, .ref _), (0, .ref _), (1, .int _)]) hx hb dX6_dates_36 rfl hl (by decide) rfl (fun ls hl => ?_)
        refine lv_iconst (v := 0) hx hb dX6_dates_37 (by decide) ?_
        refine lv_istore (lv' := [(4, .int _), (3, .int _), (2, .ref _), (0, .ref _), (1, .int _)]) hx hb dX6_dates_38 hl (by decide) rfl (fun ls hl => ?_)
        exact b40 _ _ _ _ _ (vp_lt hin14) hF H locs ls hP hD hS (lv_sub hl [3, 2, 1, 0] rfl)
      · have hF := ite_f hF c18
        refine lv_aload_n hx hb dX6_dates_28 rfl (lv_at hl 1 rfl) ?_
        refine lv_ldc hx hb hown (hts _ q804) dX6_dates_29 ?_
        obtain ⟨r20, u19, e21, hF⟩ := bdI_some hF
        refine MM.callVi (m_X6_found e21) k_X6_64 S ecOK hEs hK ⟨by decide, by decide⟩ (va_recv hK hP rfl c_SP) rfl rfl hl.1 (Nat.le_of_ble_eq_true rfl) dX6_dates_31 ⟨Nat.le_refl _, Nat.le_refl _⟩ hP hD hS (fun H locs hP hD hS => ?_)
        obtain ⟨rfl, rfl⟩ := sp_eq hF
        exact retI S hr hlocks hP hD hS dX6_dates_34
    · have hF := ite_t hF c13
      refine lv_aload_n hx hb dX6_dates_7 rfl (lv_at hl 0 rfl) ?_
      refine lv_ldc hx hb hown (hts _ q291) dX6_dates_8 ?_
      obtain ⟨r23, u22, e24, hF⟩ := bdI_some hF
      refine MM.callVi (m_X6_found e24) k_X6_64 S ecOK hEs hK ⟨by decide, by decide⟩ (va_recv hK hP rfl c_SP) rfl rfl hl.1 (Nat.le_of_ble_eq_true rfl) dX6_dates_10 ⟨Nat.le_refl _, Nat.le_refl _⟩ hP hD hS (fun H locs hP hD hS => ?_)
      obtain ⟨rfl, rfl⟩ := sp_eq hF
      exact retI S hr hlocks hP hD hS dX6_dates_13
  have hl := lv_entry ([.ref (a 0), .int x1]) (n := 7) (Nat.le_of_ble_eq_true rfl)
  rw [lg_entry_eq]
  generalize (lg_sl ([.ref (a 0), .int x1]) ++ List.replicate (7 - (lg_sl ([.ref (a 0), .int x1])).length) Slot.unset).toArray = ls at hl ⊢
  exact b_main _ _ _ hP hD hS hl

set_option maxRecDepth 100000 in
set_option maxHeartbeats 4000000 in
theorem m_X6_show  {x1 : Int32} {u u' : Mem} {r : Int32}  (hF : F_X6_show  u x1 = some (r, u')) : MC l D cc a tU adK adV yX6_show cX6_show 5 (some .int) 2 45 [.ref (a 0), .int x1] u (some (.int r)) u' := by
  refine MM.ofW (by decide) (fun p e s m below meth c S hr hlocks hK hEs hP hD hS => ?_)
  have S : CallFix p m c cX6_show 5 s _ gtbl RX6 := S
  obtain ⟨hx, hb, hml, hown, hts⟩ := id S
  have b53 : ∀ (n : Nat) (u : Mem) (v2 : Nat) (v3 : Int32) (v4 : Int32) (hv2 : v2 < 4), F_X6_show_53  n u v2 v3 v4 = some (r, u') → BW p l e s m below meth c 2 45 [.ref (a 0), .int x1] D (AC a) (some (.int r)) (wlC cc a u') 5 (wlC cc a u) 53 [(0, .ref (a 0)), (2, .ref (a (v2 + 19))), (3, .int v3), (4, .int v4)] [] := by
    intro n
    induction n with
    | zero => intro u v2 v3 v4 hv2 hF; cases hF
    | succ n ih =>
      intro u v2 v3 v4 hv2 hF H locs ls hP hD hS hl
      unfold F_X6_show_53 at hF
      refine lv_iload hx hb dX6_show_53 (lv_at hl 3 rfl) ?_
      refine lv_iload_n hx hb dX6_show_55 rfl (lv_at hl 2 rfl) ?_
      refine lv_icmp_ge (tgt := 84) hx hb dX6_show_56 (by decide) (fun c1 => ?_) (fun c1 => ?_)
      · have hF := ite_t hF c1
        refine lv_iload_n hx hb dX6_show_84 rfl (lv_at hl 2 rfl) ?_
        obtain ⟨rfl, rfl⟩ := sp_eq hF
        exact retI S hr hlocks hP hD hS dX6_show_85
      · have hF := ite_f hF c1
        refine lv_aload_n hx hb dX6_show_59 rfl (lv_at hl 1 rfl) ?_
        refine lv_iload hx hb dX6_show_60 (lv_at hl 3 rfl) ?_
        refine lv_aload_n hx hb dX6_show_62 rfl (lv_at hl 0 rfl) ?_
        refine va_get_w S hK hP _ c_SP rfl igX6 0 (by decide) q259 rfl rfl dX6_show_63 ?_
        refine va_get_w S hK hP _ (c_AR ⟨by decide, by decide⟩) rfl igX0 0 (by decide) q135 rfl rfl dX6_show_66 ?_
        refine lv_iload hx hb dX6_show_69 (lv_at hl 3 rfl) ?_
        obtain ⟨hin2, hF⟩ := gd_some hF
        have hp3 := r_PR (t := 1) ⟨by decide, by decide⟩ hin2
        refine cPald S hK hP ⟨by decide, by decide⟩ hin2 dX6_show_71 ?_
        obtain ⟨r5, u4, e6, hF⟩ := bdL_some hF
        refine MM.callVl (m_X1_shown hp3 e6) k_X6_103 S ecOK hEs hK ⟨by decide, by decide⟩ (va_recv hK hP rfl (c_PR hp3)) rfl rfl hl.1 (Nat.le_of_ble_eq_true rfl) dX6_show_72 ⟨Nat.le_refl _, Nat.le_refl _⟩ hP hD hS (fun H locs hP hD hS => ?_)
        obtain ⟨u7, e9, hF⟩ := bdV_some hF
        refine MM.callVv (m_X3_put hv2 e9) k_X6_243 S ecOK hEs hK ⟨by decide, by decide⟩ (va_recv hK hP rfl (c_SH hv2)) rfl rfl hl.1 (Nat.le_of_ble_eq_true rfl) dX6_show_75 ⟨Nat.le_refl _, Nat.le_refl _⟩ hP hD hS (fun H locs hP hD hS => ?_)
        refine lv_inc1 (k := 3) (lv' := [(4, .int _), (0, .ref _), (2, .ref _), (3, .int _)]) hx hb dX6_show_78 hl rfl (by decide) rfl (fun ls hl => ?_)
        refine lv_goto (tgt := 53) hx hb dX6_show_81 (by decide) ?_
        exact ih _ _ _ _ hv2 hF H locs ls hP hD hS (lv_sub hl [1, 2, 3, 0] rfl)
  unfold F_X6_show at hF
  have b_main : BW p l e s m below meth c 2 45 [.ref (a 0), .int x1] D (AC a) (some (.int r)) (wlC cc a u') 5 (wlC cc a u) 0 [(0, .ref (a 0)), (1, .int x1)] [] := by
    intro H locs ls hP hD hS hl
    refine lv_iload_n hx hb dX6_show_0 rfl (lv_at hl 1 rfl) ?_
    obtain ⟨r11, u10, e12, hF⟩ := bdI_some hF
    refine MM.callSi (m_X6_isSheet e12) k_X6_224 S ecOK hEs hK ⟨by decide, by decide⟩ rfl rfl hl.1 (Nat.le_of_ble_eq_true rfl) dX6_show_1 ⟨Nat.le_refl _, Nat.le_refl _⟩ hP hD hS (fun H locs hP hD hS => ?_)
    refine lv_if_ne (tgt := 14) hx hb dX6_show_4 (by decide) (fun c13 => ?_) (fun c13 => ?_)
    · have hF := ite_f hF c13
      refine lv_aload_n hx hb dX6_show_14 rfl (lv_at hl 0 rfl) ?_
      refine va_get_w S hK hP _ c_SP rfl igX6 5 (by decide) q264 rfl rfl dX6_show_15 ?_
      refine lv_iload_n hx hb dX6_show_18 rfl (lv_at hl 1 rfl) ?_
      obtain ⟨hin14, hF⟩ := gd_some hF
      refine cSald S hK hP hin14 dX6_show_19 ?_
      refine lv_astore_n (lv' := [(2, .ref _), (0, .ref _), (1, .int _)]) hx hb dX6_show_20 rfl hl (by decide) rfl (fun ls hl => ?_)
      refine lv_aload_n hx hb dX6_show_21 rfl (lv_at hl 0 rfl) ?_
      obtain ⟨r16, u15, e17, hF⟩ := bdI_some hF
      refine MM.callVi (m_X3_isMissing (vp_lt hin14) e17) k_X6_234 S ecOK hEs hK ⟨by decide, by decide⟩ (va_recv hK hP rfl (c_SH (vp_lt hin14))) rfl rfl hl.1 (Nat.le_of_ble_eq_true rfl) dX6_show_22 ⟨Nat.le_refl _, Nat.le_refl _⟩ hP hD hS (fun H locs hP hD hS => ?_)
      refine lv_if_eq (tgt := 35) hx hb dX6_show_25 (by decide) (fun c18 => ?_) (fun c18 => ?_)
      · have hF := ite_t hF c18
        refine lv_aload_n hx hb dX6_show_35 rfl (lv_at hl 0 rfl) ?_
        refine va_get_w S hK hP _ (c_SH (vp_lt hin14)) rfl igX3 2 (by decide) q250 rfl rfl dX6_show_36 ?_
        refine lv_aload_n hx hb dX6_show_39 rfl (lv_at hl 1 rfl) ?_
        refine va_get_w S hK hP _ c_SP rfl igX6 0 (by decide) q259 rfl rfl dX6_show_40 ?_
        refine va_get_w S hK hP _ (c_AR ⟨by decide, by decide⟩) rfl igX0 1 (by decide) q141 rfl rfl dX6_show_43 ?_
        refine va_mmin hx hb (hml.trans hl.1.symm) hown (hts _ q833) (hts _ q691) (hts _ q73) (hts _ q692) (by decide) (Nat.le_of_ble_eq_true rfl) (Nat.le_refl _) (Nat.le_refl _) dX6_show_46 ?_
        refine lv_istore_n (lv' := [(3, .int _), (2, .ref _), (0, .ref _), (1, .int _)]) hx hb dX6_show_49 rfl hl (by decide) rfl (fun ls hl => ?_)
        refine lv_iconst (v := 0) hx hb dX6_show_50 (by decide) ?_
        refine lv_istore (lv' := [(4, .int _), (3, .int _), (2, .ref _), (0, .ref _), (1, .int _)]) hx hb dX6_show_51 hl (by decide) rfl (fun ls hl => ?_)
        exact b53 _ _ _ _ _ (vp_lt hin14) hF H locs ls hP hD hS (lv_sub hl [3, 2, 1, 0] rfl)
      · have hF := ite_f hF c18
        refine lv_aload_n hx hb dX6_show_28 rfl (lv_at hl 1 rfl) ?_
        refine lv_ldc hx hb hown (hts _ q804) dX6_show_29 ?_
        obtain ⟨r20, u19, e21, hF⟩ := bdI_some hF
        refine MM.callVi (m_X6_found e21) k_X6_64 S ecOK hEs hK ⟨by decide, by decide⟩ (va_recv hK hP rfl c_SP) rfl rfl hl.1 (Nat.le_of_ble_eq_true rfl) dX6_show_31 ⟨Nat.le_refl _, Nat.le_refl _⟩ hP hD hS (fun H locs hP hD hS => ?_)
        obtain ⟨rfl, rfl⟩ := sp_eq hF
        exact retI S hr hlocks hP hD hS dX6_show_34
    · have hF := ite_t hF c13
      refine lv_aload_n hx hb dX6_show_7 rfl (lv_at hl 0 rfl) ?_
      refine lv_ldc hx hb hown (hts _ q291) dX6_show_8 ?_
      obtain ⟨r23, u22, e24, hF⟩ := bdI_some hF
      refine MM.callVi (m_X6_found e24) k_X6_64 S ecOK hEs hK ⟨by decide, by decide⟩ (va_recv hK hP rfl c_SP) rfl rfl hl.1 (Nat.le_of_ble_eq_true rfl) dX6_show_10 ⟨Nat.le_refl _, Nat.le_refl _⟩ hP hD hS (fun H locs hP hD hS => ?_)
      obtain ⟨rfl, rfl⟩ := sp_eq hF
      exact retI S hr hlocks hP hD hS dX6_show_13
  have hl := lv_entry ([.ref (a 0), .int x1]) (n := 5) (Nat.le_of_ble_eq_true rfl)
  rw [lg_entry_eq]
  generalize (lg_sl ([.ref (a 0), .int x1]) ++ List.replicate (5 - (lg_sl ([.ref (a 0), .int x1])).length) Slot.unset).toArray = ls at hl ⊢
  exact b_main _ _ _ hP hD hS hl

set_option maxRecDepth 100000 in
set_option maxHeartbeats 4000000 in
theorem m_X0_canAllBe {x0 : Nat} {x1 : Int32} {x2 : Int32} {u u' : Mem} {r : Int32} (hx0 : 1 ≤ x0 ∧ x0 ≤ 3) (hF : F_X0_canAllBe x0 u x1 x2 = some (r, u')) : MC l D cc a tU adK adV yX0_canAllBe cX0_canAllBe 4 (some .boolean) 4 90 [.ref (a (x0 + 3)), .int x1, .int x2] u (some (.int r)) u' := by
  refine MM.ofW (by decide) (fun p e s m below meth c S hr hlocks hK hEs hP hD hS => ?_)
  have S : CallFix p m c cX0_canAllBe 4 s _ gtbl RX0 := S
  obtain ⟨hx, hb, hml, hown, hts⟩ := id S
  have b29 : ∀ (k2 : Mem → Nat → Int32 → Int32 → Int32 → Option (Int32 × Mem)) (hk2 : ∀ (u : Mem) (v0 : Nat) (v1 : Int32) (v2 : Int32) (v3 : Int32) (hv0 : 1 ≤ v0 ∧ v0 ≤ 3), k2 u v0 v1 v2 v3 = some (r, u') → BW p l e s m below meth c 4 90 [.ref (a (x0 + 3)), .int x1, .int x2] D (AC a) (some (.int r)) (wlC cc a u') 4 (wlC cc a u) 2 [(0, .ref (a (v0 + 3))), (1, .int v1), (2, .int v2), (3, .int v3)] []) (u : Mem) (v0 : Nat) (v1 : Int32) (v2 : Int32) (v3 : Int32) (hv0 : 1 ≤ v0 ∧ v0 ≤ 3), F_X0_canAllBe_29 k2 u v0 v1 v2 v3 = some (r, u') → BW p l e s m below meth c 4 90 [.ref (a (x0 + 3)), .int x1, .int x2] D (AC a) (some (.int r)) (wlC cc a u') 4 (wlC cc a u) 29 [(0, .ref (a (v0 + 3))), (1, .int v1), (2, .int v2), (3, .int v3)] [] := by
    intro k2 hk2 u v0 v1 v2 v3 hv0 hF H locs ls hP hD hS hl
    unfold F_X0_canAllBe_29 at hF
    refine lv_inc1 (k := 3) (lv' := [(3, .int _), (0, .ref _), (1, .int _), (2, .int _)]) hx hb dX0_canAllBe_29 hl rfl (by decide) rfl (fun ls hl => ?_)
    refine lv_goto (tgt := 2) hx hb dX0_canAllBe_32 (by decide) ?_
    exact hk2 _ _ _ _ _ hv0 hF H locs ls hP hD hS (lv_sub hl [1, 2, 3, 0] rfl)
  have b2 : ∀ (n : Nat) (u : Mem) (v0 : Nat) (v1 : Int32) (v2 : Int32) (v3 : Int32) (hv0 : 1 ≤ v0 ∧ v0 ≤ 3), F_X0_canAllBe_2  n u v0 v1 v2 v3 = some (r, u') → BW p l e s m below meth c 4 90 [.ref (a (x0 + 3)), .int x1, .int x2] D (AC a) (some (.int r)) (wlC cc a u') 4 (wlC cc a u) 2 [(0, .ref (a (v0 + 3))), (1, .int v1), (2, .int v2), (3, .int v3)] [] := by
    intro n
    induction n with
    | zero => intro u v0 v1 v2 v3 hv0 hF; cases hF
    | succ n ih =>
      intro u v0 v1 v2 v3 hv0 hF H locs ls hP hD hS hl
      unfold F_X0_canAllBe_2 at hF
      refine lv_iload_n hx hb dX0_canAllBe_2 rfl (lv_at hl 3 rfl) ?_
      refine lv_aload_n hx hb dX0_canAllBe_3 rfl (lv_at hl 0 rfl) ?_
      refine va_get_w S hK hP _ (c_AR hv0) rfl igX0 1 (by decide) q138 rfl rfl dX0_canAllBe_4 ?_
      refine lv_icmp_ge (tgt := 35) hx hb dX0_canAllBe_7 (by decide) (fun c1 => ?_) (fun c1 => ?_)
      · have hF := ite_t hF c1
        refine lv_iconst (v := 1) hx hb dX0_canAllBe_35 (by decide) ?_
        obtain ⟨rfl, rfl⟩ := sp_eq hF
        exact retZ S hr hlocks hP hD hS (by decide) dX0_canAllBe_36
      · have hF := ite_f hF c1
        refine lv_iload_n hx hb dX0_canAllBe_10 rfl (lv_at hl 1 rfl) ?_
        refine lv_iconst (v := 1) hx hb dX0_canAllBe_11 (by decide) ?_
        refine lv_iload_n hx hb dX0_canAllBe_12 rfl (lv_at hl 3 rfl) ?_
        refine lv_ishl hx hb dX0_canAllBe_13 ?_
        refine lv_iand hx hb dX0_canAllBe_14 ?_
        refine lv_if_eq (tgt := 29) hx hb dX0_canAllBe_15 (by decide) (fun c2 => ?_) (fun c2 => ?_)
        · have hF := ite_t hF c2
          exact b29 _ ih _ _ _ _ _ hv0 hF H locs ls hP hD hS (lv_sub hl [0, 1, 2, 3] rfl)
        · have hF := ite_f hF c2
          refine lv_aload_n hx hb dX0_canAllBe_18 rfl (lv_at hl 0 rfl) ?_
          refine lv_iload_n hx hb dX0_canAllBe_19 rfl (lv_at hl 3 rfl) ?_
          refine lv_iload_n hx hb dX0_canAllBe_20 rfl (lv_at hl 2 rfl) ?_
          obtain ⟨r4, u3, e5, hF⟩ := bdI_some hF
          refine MM.callVi (m_X0_canBe hv0 e5) k_X0_48 S ecOK hEs hK ⟨by decide, by decide⟩ (va_recv hK hP rfl (c_AR hv0)) rfl rfl hl.1 (Nat.le_of_ble_eq_true rfl) dX0_canAllBe_21 ⟨Nat.le_refl _, Nat.le_refl _⟩ hP hD hS (fun H locs hP hD hS => ?_)
          refine lv_if_ne (tgt := 29) hx hb dX0_canAllBe_24 (by decide) (fun c6 => ?_) (fun c6 => ?_)
          · have hF := ite_f hF c6
            exact b29 _ ih _ _ _ _ _ hv0 hF H locs ls hP hD hS (lv_sub hl [0, 1, 2, 3] rfl)
          · have hF := ite_t hF c6
            refine lv_iconst (v := 0) hx hb dX0_canAllBe_27 (by decide) ?_
            obtain ⟨rfl, rfl⟩ := sp_eq hF
            exact retZ S hr hlocks hP hD hS (by decide) dX0_canAllBe_28
  unfold F_X0_canAllBe at hF
  have b_main : BW p l e s m below meth c 4 90 [.ref (a (x0 + 3)), .int x1, .int x2] D (AC a) (some (.int r)) (wlC cc a u') 4 (wlC cc a u) 0 [(0, .ref (a (x0 + 3))), (1, .int x1), (2, .int x2)] [] := by
    intro H locs ls hP hD hS hl
    refine lv_iconst (v := 0) hx hb dX0_canAllBe_0 (by decide) ?_
    refine lv_istore_n (lv' := [(3, .int _), (0, .ref _), (1, .int _), (2, .int _)]) hx hb dX0_canAllBe_1 rfl hl (by decide) rfl (fun ls hl => ?_)
    exact b2 _ _ _ _ _ _ hx0 hF H locs ls hP hD hS (lv_sub hl [1, 2, 3, 0] rfl)
  have hl := lv_entry ([.ref (a (x0 + 3)), .int x1, .int x2]) (n := 4) (Nat.le_of_ble_eq_true rfl)
  rw [lg_entry_eq]
  generalize (lg_sl ([.ref (a (x0 + 3)), .int x1, .int x2]) ++ List.replicate (4 - (lg_sl ([.ref (a (x0 + 3)), .int x1, .int x2])).length) Slot.unset).toArray = ls at hl ⊢
  exact b_main _ _ _ hP hD hS hl

set_option maxRecDepth 100000 in
set_option maxHeartbeats 4000000 in
theorem m_X6_read  {x1 : Int32} {u u' : Mem} {r : Int32}  (hF : F_X6_read  u x1 = some (r, u')) : MC l D cc a tU adK adV yX6_read cX6_read 8 (some .int) 5 113 [.ref (a 0), .int x1] u (some (.int r)) u' := by
  refine MM.ofW (by decide) (fun p e s m below meth c S hr hlocks hK hEs hP hD hS => ?_)
  have S : CallFix p m c cX6_read 8 s _ gtbl RX6 := S
  obtain ⟨hx, hb, hml, hown, hts⟩ := id S
  have b79 : ∀  (u : Mem) (v4 : Int32) , F_X6_read_79  u v4 = some (r, u') → BW p l e s m below meth c 5 113 [.ref (a 0), .int x1] D (AC a) (some (.int r)) (wlC cc a u') 8 (wlC cc a u) 79 [(4, .int v4)] [] := by
    intro  u v4 hF H locs ls hP hD hS hl
    unfold F_X6_read_79 at hF
    refine lv_iconst (v := 1) hx hb dX6_read_79 (by decide) ?_
    refine lv_iload hx hb dX6_read_80 (lv_at hl 0 rfl) ?_
    refine lv_iadd hx hb dX6_read_82 ?_
    obtain ⟨rfl, rfl⟩ := sp_eq hF
    exact retI S hr hlocks hP hD hS dX6_read_83
  have b111 : ∀  (u : Mem) (v4 : Int32) , F_X6_read_111  u v4 = some (r, u') → BW p l e s m below meth c 5 113 [.ref (a 0), .int x1] D (AC a) (some (.int r)) (wlC cc a u') 8 (wlC cc a u) 111 [(4, .int v4)] [] := by
    intro  u v4 hF H locs ls hP hD hS hl
    unfold F_X6_read_111 at hF
    refine lv_iconst (v := 1) hx hb dX6_read_111 (by decide) ?_
    refine lv_iload hx hb dX6_read_112 (lv_at hl 0 rfl) ?_
    refine lv_iadd hx hb dX6_read_114 ?_
    obtain ⟨rfl, rfl⟩ := sp_eq hF
    exact retI S hr hlocks hP hD hS dX6_read_115
  have b40 : ∀ (n : Nat) (u : Mem) (v2 : Nat) (v3 : Int32) (v4 : Int32) (hv2 : v2 < 4), F_X6_read_40  n u v2 v3 v4 = some (r, u') → BW p l e s m below meth c 5 113 [.ref (a 0), .int x1] D (AC a) (some (.int r)) (wlC cc a u') 8 (wlC cc a u) 40 [(0, .ref (a 0)), (2, .ref (a (v2 + 19))), (3, .int v3), (4, .int v4)] [] := by
    intro n
    induction n with
    | zero => intro u v2 v3 v4 hv2 hF; cases hF
    | succ n ih =>
      intro u v2 v3 v4 hv2 hF H locs ls hP hD hS hl
      unfold F_X6_read_40 at hF
      refine lv_iload hx hb dX6_read_40 (lv_at hl 3 rfl) ?_
      refine lv_aload_n hx hb dX6_read_42 rfl (lv_at hl 1 rfl) ?_
      refine va_get_w S hK hP _ (c_SH hv2) rfl igX3 2 (by decide) q250 rfl rfl dX6_read_43 ?_
      refine lv_icmp_ge (tgt := 129) hx hb dX6_read_46 (by decide) (fun c1 => ?_) (fun c1 => ?_)
      · have hF := ite_t hF c1
        refine lv_iconst (v := 0) hx hb dX6_read_129 (by decide) ?_
        obtain ⟨rfl, rfl⟩ := sp_eq hF
        exact retI S hr hlocks hP hD hS dX6_read_130
      · have hF := ite_f hF c1
        refine lv_aload_n hx hb dX6_read_49 rfl (lv_at hl 1 rfl) ?_
        refine va_get_w S hK hP _ (c_SH hv2) rfl igX3 0 (by decide) q246 rfl rfl dX6_read_50 ?_
        refine lv_iload hx hb dX6_read_53 (lv_at hl 3 rfl) ?_
        obtain ⟨hin2, hF⟩ := gd_some hF
        refine cLald S hK hP hv2 hin2 dX6_read_55 ?_
        refine lv_lstore (lv' := [(5, .long _), (0, .ref _), (2, .ref _), (3, .int _), (4, .int _)]) hx hb dX6_read_56 hl (by decide) rfl (fun ls hl => ?_)
        refine lv_lload hx hb dX6_read_58 (lv_at hl 0 rfl) ?_
        refine lv_lconst (v := 0) hx hb dX6_read_60 (by decide) ?_
        refine W.lcmp hx hb dX6_read_61 ?_
        refine lv_if_lt (tgt := 79) hx hb dX6_read_62 (by decide) (fun c3 => ?_) (fun c3 => ?_)
        · have hF := ite_t hF c3
          exact b79 _ _  hF H locs ls hP hD hS (lv_sub hl [4] rfl)
        · have hF := ite_f hF c3
          refine lv_lload hx hb dX6_read_65 (lv_at hl 0 rfl) ?_
          refine lv_aload_n hx hb dX6_read_67 rfl (lv_at hl 1 rfl) ?_
          refine va_get_w S hK hP _ c_SP rfl igX6 0 (by decide) q259 rfl rfl dX6_read_68 ?_
          refine va_get_w S hK hP _ (c_AR ⟨by decide, by decide⟩) rfl igX0 1 (by decide) q141 rfl rfl dX6_read_71 ?_
          refine lv_i2l hx hb dX6_read_74 rfl ?_
          refine W.lcmp hx hb dX6_read_75 ?_
          refine lv_if_lt (tgt := 84) hx hb dX6_read_76 (by decide) (fun c4 => ?_) (fun c4 => ?_)
          · have hF := ite_t hF c4
            refine lv_lload hx hb dX6_read_84 (lv_at hl 0 rfl) ?_
            refine lv_l2i hx hb dX6_read_86 rfl ?_
            refine lv_istore (lv' := [(7, .int _), (5, .long _), (0, .ref _), (2, .ref _), (3, .int _), (4, .int _)]) hx hb dX6_read_87 hl (by decide) rfl (fun ls hl => ?_)
            refine lv_iload_n hx hb dX6_read_89 rfl (lv_at hl 4 rfl) ?_
            refine lv_iconst (v := 1) hx hb dX6_read_90 (by decide) ?_
            refine lv_iload hx hb dX6_read_91 (lv_at hl 0 rfl) ?_
            refine lv_ishl hx hb dX6_read_93 ?_
            refine lv_iand hx hb dX6_read_94 ?_
            refine lv_if_ne (tgt := 111) hx hb dX6_read_95 (by decide) (fun c5 => ?_) (fun c5 => ?_)
            · have hF := ite_f hF c5
              exact b111 _ _  hF H locs ls hP hD hS (lv_sub hl [5] rfl)
            · have hF := ite_t hF c5
              refine lv_aload_n hx hb dX6_read_98 rfl (lv_at hl 2 rfl) ?_
              refine va_get_w S hK hP _ c_SP rfl igX6 0 (by decide) q259 rfl rfl dX6_read_99 ?_
              refine lv_iload_n hx hb dX6_read_102 rfl (lv_at hl 4 rfl) ?_
              refine lv_iload hx hb dX6_read_103 (lv_at hl 0 rfl) ?_
              obtain ⟨r7, u6, e8, hF⟩ := bdI_some hF
              refine MM.callVi (m_X0_canAllBe ⟨by decide, by decide⟩ e8) k_X6_267 S ecOK hEs hK ⟨by decide, by decide⟩ (va_recv hK hP rfl (c_AR ⟨by decide, by decide⟩)) rfl rfl hl.1 (Nat.le_of_ble_eq_true rfl) dX6_read_105 ⟨Nat.le_refl _, Nat.le_refl _⟩ hP hD hS (fun H locs hP hD hS => ?_)
              refine lv_if_ne (tgt := 116) hx hb dX6_read_108 (by decide) (fun c9 => ?_) (fun c9 => ?_)
              · have hF := ite_f hF c9
                refine lv_iload_n hx hb dX6_read_116 rfl (lv_at hl 4 rfl) ?_
                refine lv_iconst (v := 1) hx hb dX6_read_117 (by decide) ?_
                refine lv_iload hx hb dX6_read_118 (lv_at hl 0 rfl) ?_
                refine lv_ishl hx hb dX6_read_120 ?_
                refine lv_ior hx hb dX6_read_121 ?_
                refine lv_istore_n (lv' := [(3, .int _), (7, .int _), (5, .long _), (0, .ref _), (2, .ref _), (4, .int _)]) hx hb dX6_read_122 rfl hl (by decide) rfl (fun ls hl => ?_)
                refine lv_inc1 (k := 5) (lv' := [(4, .int _), (3, .int _), (7, .int _), (5, .long _), (0, .ref _), (2, .ref _)]) hx hb dX6_read_123 hl rfl (by decide) rfl (fun ls hl => ?_)
                refine lv_goto (tgt := 40) hx hb dX6_read_126 (by decide) ?_
                exact ih _ _ _ _ hv2 hF H locs ls hP hD hS (lv_sub hl [4, 5, 1, 0] rfl)
              · have hF := ite_t hF c9
                exact b111 _ _  hF H locs ls hP hD hS (lv_sub hl [5] rfl)
          · have hF := ite_f hF c4
            exact b79 _ _  hF H locs ls hP hD hS (lv_sub hl [4] rfl)
  unfold F_X6_read at hF
  have b_main : BW p l e s m below meth c 5 113 [.ref (a 0), .int x1] D (AC a) (some (.int r)) (wlC cc a u') 8 (wlC cc a u) 0 [(0, .ref (a 0)), (1, .int x1)] [] := by
    intro H locs ls hP hD hS hl
    refine lv_iload_n hx hb dX6_read_0 rfl (lv_at hl 1 rfl) ?_
    obtain ⟨r11, u10, e12, hF⟩ := bdI_some hF
    refine MM.callSi (m_X6_isSheet e12) k_X6_224 S ecOK hEs hK ⟨by decide, by decide⟩ rfl rfl hl.1 (Nat.le_of_ble_eq_true rfl) dX6_read_1 ⟨Nat.le_refl _, Nat.le_refl _⟩ hP hD hS (fun H locs hP hD hS => ?_)
    refine lv_if_ne (tgt := 14) hx hb dX6_read_4 (by decide) (fun c13 => ?_) (fun c13 => ?_)
    · have hF := ite_f hF c13
      refine lv_aload_n hx hb dX6_read_14 rfl (lv_at hl 0 rfl) ?_
      refine va_get_w S hK hP _ c_SP rfl igX6 5 (by decide) q264 rfl rfl dX6_read_15 ?_
      refine lv_iload_n hx hb dX6_read_18 rfl (lv_at hl 1 rfl) ?_
      obtain ⟨hin14, hF⟩ := gd_some hF
      refine cSald S hK hP hin14 dX6_read_19 ?_
      refine lv_astore_n (lv' := [(2, .ref _), (0, .ref _), (1, .int _)]) hx hb dX6_read_20 rfl hl (by decide) rfl (fun ls hl => ?_)
      refine lv_aload_n hx hb dX6_read_21 rfl (lv_at hl 0 rfl) ?_
      obtain ⟨r16, u15, e17, hF⟩ := bdI_some hF
      refine MM.callVi (m_X3_isMissing (vp_lt hin14) e17) k_X6_234 S ecOK hEs hK ⟨by decide, by decide⟩ (va_recv hK hP rfl (c_SH (vp_lt hin14))) rfl rfl hl.1 (Nat.le_of_ble_eq_true rfl) dX6_read_22 ⟨Nat.le_refl _, Nat.le_refl _⟩ hP hD hS (fun H locs hP hD hS => ?_)
      refine lv_if_eq (tgt := 35) hx hb dX6_read_25 (by decide) (fun c18 => ?_) (fun c18 => ?_)
      · have hF := ite_t hF c18
        refine lv_iconst (v := 0) hx hb dX6_read_35 (by decide) ?_
        refine lv_istore_n (lv' := [(3, .int _), (2, .ref _), (0, .ref _), (1, .int _)]) hx hb dX6_read_36 rfl hl (by decide) rfl (fun ls hl => ?_)
        refine lv_iconst (v := 0) hx hb dX6_read_37 (by decide) ?_
        refine lv_istore (lv' := [(4, .int _), (3, .int _), (2, .ref _), (0, .ref _), (1, .int _)]) hx hb dX6_read_38 hl (by decide) rfl (fun ls hl => ?_)
        exact b40 _ _ _ _ _ (vp_lt hin14) hF H locs ls hP hD hS (lv_sub hl [3, 2, 1, 0] rfl)
      · have hF := ite_f hF c18
        refine lv_aload_n hx hb dX6_read_28 rfl (lv_at hl 1 rfl) ?_
        refine lv_ldc hx hb hown (hts _ q804) dX6_read_29 ?_
        obtain ⟨r20, u19, e21, hF⟩ := bdI_some hF
        refine MM.callVi (m_X6_found e21) k_X6_64 S ecOK hEs hK ⟨by decide, by decide⟩ (va_recv hK hP rfl c_SP) rfl rfl hl.1 (Nat.le_of_ble_eq_true rfl) dX6_read_31 ⟨Nat.le_refl _, Nat.le_refl _⟩ hP hD hS (fun H locs hP hD hS => ?_)
        obtain ⟨rfl, rfl⟩ := sp_eq hF
        exact retI S hr hlocks hP hD hS dX6_read_34
    · have hF := ite_t hF c13
      refine lv_aload_n hx hb dX6_read_7 rfl (lv_at hl 0 rfl) ?_
      refine lv_ldc hx hb hown (hts _ q291) dX6_read_8 ?_
      obtain ⟨r23, u22, e24, hF⟩ := bdI_some hF
      refine MM.callVi (m_X6_found e24) k_X6_64 S ecOK hEs hK ⟨by decide, by decide⟩ (va_recv hK hP rfl c_SP) rfl rfl hl.1 (Nat.le_of_ble_eq_true rfl) dX6_read_10 ⟨Nat.le_refl _, Nat.le_refl _⟩ hP hD hS (fun H locs hP hD hS => ?_)
      obtain ⟨rfl, rfl⟩ := sp_eq hF
      exact retI S hr hlocks hP hD hS dX6_read_13
  have hl := lv_entry ([.ref (a 0), .int x1]) (n := 8) (Nat.le_of_ble_eq_true rfl)
  rw [lg_entry_eq]
  generalize (lg_sl ([.ref (a 0), .int x1]) ++ List.replicate (8 - (lg_sl ([.ref (a 0), .int x1])).length) Slot.unset).toArray = ls at hl ⊢
  exact b_main _ _ _ hP hD hS hl

set_option maxRecDepth 100000 in
set_option maxHeartbeats 4000000 in
theorem m_X6_image   {u u' : Mem} {r : Int32}  (hF : F_X6_image  u  = some (r, u')) : MC l D cc a tU adK adV yX6_image cX6_image 1 (some .int) 2 43 [.ref (a 0)] u (some (.int r)) u' := by
  refine MM.ofW (by decide) (fun p e s m below meth c S hr hlocks hK hEs hP hD hS => ?_)
  have S : CallFix p m c cX6_image 1 s _ gtbl RX6 := S
  obtain ⟨hx, hb, hml, hown, hts⟩ := id S
  unfold F_X6_image at hF
  have b_main : BW p l e s m below meth c 2 43 [.ref (a 0)] D (AC a) (some (.int r)) (wlC cc a u') 1 (wlC cc a u) 0 [(0, .ref (a 0))] [] := by
    intro H locs ls hP hD hS hl
    refine lv_aload_n hx hb dX6_image_0 rfl (lv_at hl 0 rfl) ?_
    refine va_get_w S hK hP _ c_SP rfl igX6 1 (by decide) q260 rfl rfl dX6_image_1 ?_
    refine lv_aload_n hx hb dX6_image_4 rfl (lv_at hl 0 rfl) ?_
    refine va_get_w S hK hP _ c_SP rfl igX6 0 (by decide) q259 rfl rfl dX6_image_5 ?_
    obtain ⟨u1, e3, hF⟩ := bdV_some hF
    refine MM.callVv (m_X0_become ⟨by decide, by decide⟩ ⟨by decide, by decide⟩ e3) k_X6_270 S ecOK hEs hK ⟨by decide, by decide⟩ (va_recv hK hP rfl (c_AR ⟨by decide, by decide⟩)) rfl rfl hl.1 (Nat.le_of_ble_eq_true rfl) dX6_image_8 ⟨Nat.le_refl _, Nat.le_refl _⟩ hP hD hS (fun H locs hP hD hS => ?_)
    refine lv_aload_n hx hb dX6_image_11 rfl (lv_at hl 0 rfl) ?_
    refine lv_iconst (v := 1) hx hb dX6_image_12 (by decide) ?_
    refine va_put_w S igX6 tyX6 tyX6_ok nmX6 hK hP hD hS _ c_SP rfl 7 (by decide) q266 rfl rfl (ty := .boolean) (tyX6_ok 7 (by decide)) (nz_ok (by decide)) (fz_ok (by decide)) (Nat.le_of_ble_eq_true rfl) z_SP dX6_image_13 (fun H locs hP hD hS => ?_)
    refine lv_iconst (v := 1) hx hb dX6_image_16 (by decide) ?_
    obtain ⟨rfl, rfl⟩ := sp_eq hF
    exact retI S hr hlocks hP hD hS dX6_image_17
  have hl := lv_entry ([.ref (a 0)]) (n := 1) (Nat.le_of_ble_eq_true rfl)
  rw [lg_entry_eq]
  generalize (lg_sl ([.ref (a 0)]) ++ List.replicate (1 - (lg_sl ([.ref (a 0)])).length) Slot.unset).toArray = ls at hl ⊢
  exact b_main _ _ _ hP hD hS hl

set_option maxRecDepth 100000 in
set_option maxHeartbeats 4000000 in
theorem m_X6_undo   {u u' : Mem} {r : Int32}  (hF : F_X6_undo  u  = some (r, u')) : MC l D cc a tU adK adV yX6_undo cX6_undo 1 (some .int) 2 43 [.ref (a 0)] u (some (.int r)) u' := by
  refine MM.ofW (by decide) (fun p e s m below meth c S hr hlocks hK hEs hP hD hS => ?_)
  have S : CallFix p m c cX6_undo 1 s _ gtbl RX6 := S
  obtain ⟨hx, hb, hml, hown, hts⟩ := id S
  unfold F_X6_undo at hF
  have b_main : BW p l e s m below meth c 2 43 [.ref (a 0)] D (AC a) (some (.int r)) (wlC cc a u') 1 (wlC cc a u) 0 [(0, .ref (a 0))] [] := by
    intro H locs ls hP hD hS hl
    refine lv_aload_n hx hb dX6_undo_0 rfl (lv_at hl 0 rfl) ?_
    refine va_get_w S hK hP _ c_SP rfl igX6 7 (by decide) q266 rfl rfl dX6_undo_1 ?_
    refine lv_if_ne (tgt := 14) hx hb dX6_undo_4 (by decide) (fun c1 => ?_) (fun c1 => ?_)
    · have hF := ite_f hF c1
      refine lv_aload_n hx hb dX6_undo_14 rfl (lv_at hl 0 rfl) ?_
      refine va_get_w S hK hP _ c_SP rfl igX6 0 (by decide) q259 rfl rfl dX6_undo_15 ?_
      refine lv_aload_n hx hb dX6_undo_18 rfl (lv_at hl 0 rfl) ?_
      refine va_get_w S hK hP _ c_SP rfl igX6 1 (by decide) q260 rfl rfl dX6_undo_19 ?_
      obtain ⟨u2, e4, hF⟩ := bdV_some hF
      refine MM.callVv (m_X0_become ⟨by decide, by decide⟩ ⟨by decide, by decide⟩ e4) k_X6_270 S ecOK hEs hK ⟨by decide, by decide⟩ (va_recv hK hP rfl (c_AR ⟨by decide, by decide⟩)) rfl rfl hl.1 (Nat.le_of_ble_eq_true rfl) dX6_undo_22 ⟨Nat.le_refl _, Nat.le_refl _⟩ hP hD hS (fun H locs hP hD hS => ?_)
      refine lv_aload_n hx hb dX6_undo_25 rfl (lv_at hl 0 rfl) ?_
      refine va_get_w S hK hP _ c_SP rfl igX6 0 (by decide) q259 rfl rfl dX6_undo_26 ?_
      refine va_get_w S hK hP _ (c_AR ⟨by decide, by decide⟩) rfl igX0 1 (by decide) q141 rfl rfl dX6_undo_29 ?_
      obtain ⟨rfl, rfl⟩ := sp_eq hF
      exact retI S hr hlocks hP hD hS dX6_undo_32
    · have hF := ite_t hF c1
      refine lv_aload_n hx hb dX6_undo_7 rfl (lv_at hl 0 rfl) ?_
      refine lv_ldc hx hb hown (hts _ q436) dX6_undo_8 ?_
      obtain ⟨r6, u5, e7, hF⟩ := bdI_some hF
      refine MM.callVi (m_X6_found e7) k_X6_64 S ecOK hEs hK ⟨by decide, by decide⟩ (va_recv hK hP rfl c_SP) rfl rfl hl.1 (Nat.le_of_ble_eq_true rfl) dX6_undo_10 ⟨Nat.le_refl _, Nat.le_refl _⟩ hP hD hS (fun H locs hP hD hS => ?_)
      obtain ⟨rfl, rfl⟩ := sp_eq hF
      exact retI S hr hlocks hP hD hS dX6_undo_13
  have hl := lv_entry ([.ref (a 0)]) (n := 1) (Nat.le_of_ble_eq_true rfl)
  rw [lg_entry_eq]
  generalize (lg_sl ([.ref (a 0)]) ++ List.replicate (1 - (lg_sl ([.ref (a 0)])).length) Slot.unset).toArray = ls at hl ⊢
  exact b_main _ _ _ hP hD hS hl

set_option maxRecDepth 100000 in
set_option maxHeartbeats 4000000 in
theorem m_X6_tear   {u u' : Mem} {r : Int32}  (hF : F_X6_tear  u  = some (r, u')) : MC l D cc a tU adK adV yX6_tear cX6_tear 2 (some .int) 0 0 [.ref (a 0)] u (some (.int r)) u' := by
  refine MM.ofW (by decide) (fun p e s m below meth c S hr hlocks hK hEs hP hD hS => ?_)
  have S : CallFix p m c cX6_tear 2 s _ gtbl RX6 := S
  obtain ⟨hx, hb, hml, hown, hts⟩ := id S
  have b12 : ∀  (u : Mem) (y0 : Int32) , F_X6_tear_12  u y0 = some (r, u') → BW p l e s m below meth c 0 0 [.ref (a 0)] D (AC a) (some (.int r)) (wlC cc a u') 2 (wlC cc a u) 12 [(0, .ref (a 0))] [.int y0] := by
    intro  u y0 hF H locs ls hP hD hS hl
    unfold F_X6_tear_12 at hF
    refine lv_istore_n (lv' := [(1, .int _), (0, .ref _)]) hx hb dX6_tear_12 rfl hl (by decide) rfl (fun ls hl => ?_)
    refine lv_aload_n hx hb dX6_tear_13 rfl (lv_at hl 1 rfl) ?_
    refine lv_iconst (v := 0) hx hb dX6_tear_14 (by decide) ?_
    refine va_put_w S igX6 tyX6 tyX6_ok nmX6 hK hP hD hS _ c_SP rfl 7 (by decide) q266 rfl rfl (ty := .boolean) (tyX6_ok 7 (by decide)) (nz_ok (by decide)) (fz_ok (by decide)) (Nat.le_of_ble_eq_true rfl) z_SP dX6_tear_15 (fun H locs hP hD hS => ?_)
    refine lv_iload_n hx hb dX6_tear_18 rfl (lv_at hl 0 rfl) ?_
    obtain ⟨rfl, rfl⟩ := sp_eq hF
    exact retI S hr hlocks hP hD hS dX6_tear_19
  unfold F_X6_tear at hF
  have b_main : BW p l e s m below meth c 0 0 [.ref (a 0)] D (AC a) (some (.int r)) (wlC cc a u') 2 (wlC cc a u) 0 [(0, .ref (a 0))] [] := by
    intro H locs ls hP hD hS hl
    refine lv_aload_n hx hb dX6_tear_0 rfl (lv_at hl 0 rfl) ?_
    refine va_get_w S hK hP _ c_SP rfl igX6 7 (by decide) q266 rfl rfl dX6_tear_1 ?_
    refine lv_if_eq (tgt := 11) hx hb dX6_tear_4 (by decide) (fun c1 => ?_) (fun c1 => ?_)
    · have hF := ite_t hF c1
      refine lv_iconst (v := 0) hx hb dX6_tear_11 (by decide) ?_
      exact b12 _ _  hF H locs ls hP hD hS (lv_sub hl [0] rfl)
    · have hF := ite_f hF c1
      refine lv_iconst (v := 1) hx hb dX6_tear_7 (by decide) ?_
      refine lv_goto (tgt := 12) hx hb dX6_tear_8 (by decide) ?_
      exact b12 _ _  hF H locs ls hP hD hS (lv_sub hl [0] rfl)
  have hl := lv_entry ([.ref (a 0)]) (n := 2) (Nat.le_of_ble_eq_true rfl)
  rw [lg_entry_eq]
  generalize (lg_sl ([.ref (a 0)]) ++ List.replicate (2 - (lg_sl ([.ref (a 0)])).length) Slot.unset).toArray = ls at hl ⊢
  exact b_main _ _ _ hP hD hS hl

set_option maxRecDepth 100000 in
set_option maxHeartbeats 4000000 in
theorem m_X0_howManySeen {x0 : Nat}  {u u' : Mem} {r : Int32} (hx0 : 1 ≤ x0 ∧ x0 ≤ 3) (hF : F_X0_howManySeen x0 u  = some (r, u')) : MC l D cc a tU adK adV yX0_howManySeen cX0_howManySeen 3 (some .int) 0 0 [.ref (a (x0 + 3))] u (some (.int r)) u' := by
  refine MM.ofW (by decide) (fun p e s m below meth c S hr hlocks hK hEs hP hD hS => ?_)
  have S : CallFix p m c cX0_howManySeen 3 s _ gtbl RX0 := S
  obtain ⟨hx, hb, hml, hown, hts⟩ := id S
  have b27 : ∀ (k4 : Mem → Nat → Int32 → Int32 → Option (Int32 × Mem)) (hk4 : ∀ (u : Mem) (v0 : Nat) (v1 : Int32) (v2 : Int32) (hv0 : 1 ≤ v0 ∧ v0 ≤ 3), k4 u v0 v1 v2 = some (r, u') → BW p l e s m below meth c 0 0 [.ref (a (x0 + 3))] D (AC a) (some (.int r)) (wlC cc a u') 3 (wlC cc a u) 4 [(0, .ref (a (v0 + 3))), (1, .int v1), (2, .int v2)] []) (u : Mem) (v0 : Nat) (v1 : Int32) (v2 : Int32) (hv0 : 1 ≤ v0 ∧ v0 ≤ 3), F_X0_howManySeen_27 k4 u v0 v1 v2 = some (r, u') → BW p l e s m below meth c 0 0 [.ref (a (x0 + 3))] D (AC a) (some (.int r)) (wlC cc a u') 3 (wlC cc a u) 27 [(0, .ref (a (v0 + 3))), (1, .int v1), (2, .int v2)] [] := by
    intro k4 hk4 u v0 v1 v2 hv0 hF H locs ls hP hD hS hl
    unfold F_X0_howManySeen_27 at hF
    refine lv_inc1 (k := 2) (lv' := [(2, .int _), (0, .ref _), (1, .int _)]) hx hb dX0_howManySeen_27 hl rfl (by decide) rfl (fun ls hl => ?_)
    refine lv_goto (tgt := 4) hx hb dX0_howManySeen_30 (by decide) ?_
    exact hk4 _ _ _ _ hv0 hF H locs ls hP hD hS (lv_sub hl [1, 2, 0] rfl)
  have b4 : ∀ (n : Nat) (u : Mem) (v0 : Nat) (v1 : Int32) (v2 : Int32) (hv0 : 1 ≤ v0 ∧ v0 ≤ 3), F_X0_howManySeen_4  n u v0 v1 v2 = some (r, u') → BW p l e s m below meth c 0 0 [.ref (a (x0 + 3))] D (AC a) (some (.int r)) (wlC cc a u') 3 (wlC cc a u) 4 [(0, .ref (a (v0 + 3))), (1, .int v1), (2, .int v2)] [] := by
    intro n
    induction n with
    | zero => intro u v0 v1 v2 hv0 hF; cases hF
    | succ n ih =>
      intro u v0 v1 v2 hv0 hF H locs ls hP hD hS hl
      unfold F_X0_howManySeen_4 at hF
      refine lv_iload_n hx hb dX0_howManySeen_4 rfl (lv_at hl 2 rfl) ?_
      refine lv_aload_n hx hb dX0_howManySeen_5 rfl (lv_at hl 0 rfl) ?_
      refine va_get_w S hK hP _ (c_AR hv0) rfl igX0 1 (by decide) q138 rfl rfl dX0_howManySeen_6 ?_
      refine lv_icmp_ge (tgt := 33) hx hb dX0_howManySeen_9 (by decide) (fun c1 => ?_) (fun c1 => ?_)
      · have hF := ite_t hF c1
        refine lv_iload_n hx hb dX0_howManySeen_33 rfl (lv_at hl 1 rfl) ?_
        obtain ⟨rfl, rfl⟩ := sp_eq hF
        exact retI S hr hlocks hP hD hS dX0_howManySeen_34
      · have hF := ite_f hF c1
        refine lv_aload_n hx hb dX0_howManySeen_12 rfl (lv_at hl 0 rfl) ?_
        refine va_get_w S hK hP _ (c_AR hv0) rfl igX0 0 (by decide) q134 rfl rfl dX0_howManySeen_13 ?_
        refine lv_iload_n hx hb dX0_howManySeen_16 rfl (lv_at hl 2 rfl) ?_
        obtain ⟨hin2, hF⟩ := gd_some hF
        have hp3 := r_PR (t := v0) hv0 hin2
        refine cPald S hK hP hv0 hin2 dX0_howManySeen_17 ?_
        refine va_get_w S hK hP _ (c_PR hp3) rfl igX1 3 (by decide) q117 rfl rfl dX0_howManySeen_18 ?_
        refine lv_if_eq (tgt := 27) hx hb dX0_howManySeen_21 (by decide) (fun c4 => ?_) (fun c4 => ?_)
        · have hF := ite_t hF c4
          exact b27 _ ih _ _ _ _ hv0 hF H locs ls hP hD hS (lv_sub hl [0, 1, 2] rfl)
        · have hF := ite_f hF c4
          refine lv_inc1 (k := 1) (lv' := [(1, .int _), (0, .ref _), (2, .int _)]) hx hb dX0_howManySeen_24 hl rfl (by decide) rfl (fun ls hl => ?_)
          exact b27 _ ih _ _ _ _ hv0 hF H locs ls hP hD hS (lv_sub hl [1, 0, 2] rfl)
  unfold F_X0_howManySeen at hF
  have b_main : BW p l e s m below meth c 0 0 [.ref (a (x0 + 3))] D (AC a) (some (.int r)) (wlC cc a u') 3 (wlC cc a u) 0 [(0, .ref (a (x0 + 3)))] [] := by
    intro H locs ls hP hD hS hl
    refine lv_iconst (v := 0) hx hb dX0_howManySeen_0 (by decide) ?_
    refine lv_istore_n (lv' := [(1, .int _), (0, .ref _)]) hx hb dX0_howManySeen_1 rfl hl (by decide) rfl (fun ls hl => ?_)
    refine lv_iconst (v := 0) hx hb dX0_howManySeen_2 (by decide) ?_
    refine lv_istore_n (lv' := [(2, .int _), (1, .int _), (0, .ref _)]) hx hb dX0_howManySeen_3 rfl hl (by decide) rfl (fun ls hl => ?_)
    exact b4 _ _ _ _ _ hx0 hF H locs ls hP hD hS (lv_sub hl [2, 1, 0] rfl)
  have hl := lv_entry ([.ref (a (x0 + 3))]) (n := 3) (Nat.le_of_ble_eq_true rfl)
  rw [lg_entry_eq]
  generalize (lg_sl ([.ref (a (x0 + 3))]) ++ List.replicate (3 - (lg_sl ([.ref (a (x0 + 3))])).length) Slot.unset).toArray = ls at hl ⊢
  exact b_main _ _ _ hP hD hS hl

end
