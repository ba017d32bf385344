section
variable {p : Program} {l : Launch} {e : Env} {s : State} {m : MethodId} {below : List Frame} {meth : Method} {c : Code} {b L : Nat} {xs : Nat → Int32} {D : va_G} {cc : Nat → ClassId} {a a2 : Nat → Nat} {tU : Nat} {adK adV : Nat → Nat} {Rel : Mem → Mem → Prop}
set_option maxRecDepth 100000 in
set_option maxHeartbeats 4000000 in
theorem law_15 (C0 : LStat s D cc a a2 tU adK adV) (S : CallFix p m c code 4 s #[Value.ref b] gtbl RL) (hX : va_X b L xs s s.heap) (hbl : b < s.heap.size) {i : Int32} (h1 : vp_in (i + 1) L) (h2 : vp_in (i + 2) L) (h3 : vp_in (i + 3) L) (h4 : vp_in (i + 4) L) (h5 : vp_in (i + 5) L) (hst : ST_15 Rel) {u v : Mem} (hR : Rel u v) (hnx : ∀ u' v', Rel u' v' → LW p l e s m below meth c b D cc a a2 u' v' 1479 i) : LW p l e s m below meth c b D cc a a2 u v 752 i := by
  intro H locs ls hPC hPM hS hl
  have hbA : ¬ (fun z : Nat => s.heap.size ≤ z) b := Nat.not_le.mpr hbl
  obtain ⟨hx, hb, hml, hown, hts⟩ := id S
  refine lv_aload_n hx hb dL_law_752 rfl (lv_at hl 1 rfl) ?_
  refine lv_aload_n hx hb dL_law_753 rfl (lv_at hl 0 rfl) ?_
  refine lv_iload_n hx hb dL_law_754 rfl (lv_at hl 3 rfl) ?_
  refine lv_iconst (v := 1) hx hb dL_law_755 (by decide) ?_
  refine lv_iadd hx hb dL_law_756 ?_
  refine va_sld hx hb hX hbl hbA hS h1 dL_law_757 ?_
  obtain ⟨r, u', v', e1, e2, hR'⟩ := hst u v (xs (i + (1 : Int32)).toNatClampNeg) hR
  refine lawC C0 (m_X6_most e1) rfl k_L_81 S ⟨Nat.le_of_ble_eq_true rfl, Nat.le_of_ble_eq_true rfl⟩ rfl rfl hl.1 (Nat.le_of_ble_eq_true rfl) dL_law_758 ⟨Nat.le_of_ble_eq_true rfl, Nat.le_of_ble_eq_true rfl⟩ hPC hPM hS (fun H locs hPC hPM hS => ?_)
  refine W.eq (g2 := F0 m 761 ls [.int r]) rfl ?_
  refine lv_aload_n hx hb dL_law_761 rfl (lv_at hl 2 rfl) ?_
  refine lv_aload_n hx hb dL_law_762 rfl (lv_at hl 0 rfl) ?_
  refine lv_iload_n hx hb dL_law_763 rfl (lv_at hl 3 rfl) ?_
  refine lv_iconst (v := 1) hx hb dL_law_764 (by decide) ?_
  refine lv_iadd hx hb dL_law_765 ?_
  refine va_sld hx hb hX hbl hbA hS h1 dL_law_766 ?_
  refine lawM C0 (m_X7_most e2) rfl k_L_84 S ⟨Nat.le_of_ble_eq_true rfl, Nat.le_of_ble_eq_true rfl⟩ rfl rfl hl.1 (Nat.le_of_ble_eq_true rfl) dL_law_767 ⟨Nat.le_of_ble_eq_true rfl, Nat.le_of_ble_eq_true rfl⟩ hPC hPM hS (fun H locs hPC hPM hS => ?_)
  refine W.eq (g2 := F0 m 770 ls [.int r, .int r]) rfl ?_
  refine lv_icmp_eq (tgt := 1479) hx hb dL_law_770 (by decide) (fun _ => ?_) (fun c9 => absurd rfl c9)
  exact hnx _ _ hR' H locs ls hPC hPM hS (lv_sub hl [0, 1, 2, 3] rfl)

set_option maxRecDepth 100000 in
set_option maxHeartbeats 4000000 in
theorem law_16 (C0 : LStat s D cc a a2 tU adK adV) (S : CallFix p m c code 4 s #[Value.ref b] gtbl RL) (hX : va_X b L xs s s.heap) (hbl : b < s.heap.size) {i : Int32} (h1 : vp_in (i + 1) L) (h2 : vp_in (i + 2) L) (h3 : vp_in (i + 3) L) (h4 : vp_in (i + 4) L) (h5 : vp_in (i + 5) L) (hst : ST_16 Rel) {u v : Mem} (hR : Rel u v) (hnx : ∀ u' v', Rel u' v' → LW p l e s m below meth c b D cc a a2 u' v' 1479 i) : LW p l e s m below meth c b D cc a a2 u v 775 i := by
  intro H locs ls hPC hPM hS hl
  have hbA : ¬ (fun z : Nat => s.heap.size ≤ z) b := Nat.not_le.mpr hbl
  obtain ⟨hx, hb, hml, hown, hts⟩ := id S
  refine lv_aload_n hx hb dL_law_775 rfl (lv_at hl 1 rfl) ?_
  refine lv_aload_n hx hb dL_law_776 rfl (lv_at hl 0 rfl) ?_
  refine lv_iload_n hx hb dL_law_777 rfl (lv_at hl 3 rfl) ?_
  refine lv_iconst (v := 1) hx hb dL_law_778 (by decide) ?_
  refine lv_iadd hx hb dL_law_779 ?_
  refine va_sld hx hb hX hbl hbA hS h1 dL_law_780 ?_
  obtain ⟨r, u', v', e1, e2, hR'⟩ := hst u v (xs (i + (1 : Int32)).toNatClampNeg) hR
  refine lawC C0 (m_X6_best e1) rfl k_L_85 S ⟨Nat.le_of_ble_eq_true rfl, Nat.le_of_ble_eq_true rfl⟩ rfl rfl hl.1 (Nat.le_of_ble_eq_true rfl) dL_law_781 ⟨Nat.le_of_ble_eq_true rfl, Nat.le_of_ble_eq_true rfl⟩ hPC hPM hS (fun H locs hPC hPM hS => ?_)
  refine W.eq (g2 := F0 m 784 ls [.int r]) rfl ?_
  refine lv_aload_n hx hb dL_law_784 rfl (lv_at hl 2 rfl) ?_
  refine lv_aload_n hx hb dL_law_785 rfl (lv_at hl 0 rfl) ?_
  refine lv_iload_n hx hb dL_law_786 rfl (lv_at hl 3 rfl) ?_
  refine lv_iconst (v := 1) hx hb dL_law_787 (by decide) ?_
  refine lv_iadd hx hb dL_law_788 ?_
  refine va_sld hx hb hX hbl hbA hS h1 dL_law_789 ?_
  refine lawM C0 (m_X7_best e2) rfl k_L_88 S ⟨Nat.le_of_ble_eq_true rfl, Nat.le_of_ble_eq_true rfl⟩ rfl rfl hl.1 (Nat.le_of_ble_eq_true rfl) dL_law_790 ⟨Nat.le_of_ble_eq_true rfl, Nat.le_of_ble_eq_true rfl⟩ hPC hPM hS (fun H locs hPC hPM hS => ?_)
  refine W.eq (g2 := F0 m 793 ls [.int r, .int r]) rfl ?_
  refine lv_icmp_eq (tgt := 1479) hx hb dL_law_793 (by decide) (fun _ => ?_) (fun c9 => absurd rfl c9)
  exact hnx _ _ hR' H locs ls hPC hPM hS (lv_sub hl [0, 1, 2, 3] rfl)

set_option maxRecDepth 100000 in
set_option maxHeartbeats 4000000 in
theorem law_17 (C0 : LStat s D cc a a2 tU adK adV) (S : CallFix p m c code 4 s #[Value.ref b] gtbl RL) (hX : va_X b L xs s s.heap) (hbl : b < s.heap.size) {i : Int32} (h1 : vp_in (i + 1) L) (h2 : vp_in (i + 2) L) (h3 : vp_in (i + 3) L) (h4 : vp_in (i + 4) L) (h5 : vp_in (i + 5) L) (hst : ST_17 Rel) {u v : Mem} (hR : Rel u v) (hnx : ∀ u' v', Rel u' v' → LW p l e s m below meth c b D cc a a2 u' v' 1479 i) : LW p l e s m below meth c b D cc a a2 u v 798 i := by
  intro H locs ls hPC hPM hS hl
  have hbA : ¬ (fun z : Nat => s.heap.size ≤ z) b := Nat.not_le.mpr hbl
  obtain ⟨hx, hb, hml, hown, hts⟩ := id S
  refine lv_aload_n hx hb dL_law_798 rfl (lv_at hl 1 rfl) ?_
  refine lv_aload_n hx hb dL_law_799 rfl (lv_at hl 0 rfl) ?_
  refine lv_iload_n hx hb dL_law_800 rfl (lv_at hl 3 rfl) ?_
  refine lv_iconst (v := 1) hx hb dL_law_801 (by decide) ?_
  refine lv_iadd hx hb dL_law_802 ?_
  refine va_sld hx hb hX hbl hbA hS h1 dL_law_803 ?_
  obtain ⟨r, u', v', e1, e2, hR'⟩ := hst u v (xs (i + (1 : Int32)).toNatClampNeg) hR
  refine lawC C0 (m_X6_fewest e1) rfl k_L_89 S ⟨Nat.le_of_ble_eq_true rfl, Nat.le_of_ble_eq_true rfl⟩ rfl rfl hl.1 (Nat.le_of_ble_eq_true rfl) dL_law_804 ⟨Nat.le_of_ble_eq_true rfl, Nat.le_of_ble_eq_true rfl⟩ hPC hPM hS (fun H locs hPC hPM hS => ?_)
  refine W.eq (g2 := F0 m 807 ls [.int r]) rfl ?_
  refine lv_aload_n hx hb dL_law_807 rfl (lv_at hl 2 rfl) ?_
  refine lv_aload_n hx hb dL_law_808 rfl (lv_at hl 0 rfl) ?_
  refine lv_iload_n hx hb dL_law_809 rfl (lv_at hl 3 rfl) ?_
  refine lv_iconst (v := 1) hx hb dL_law_810 (by decide) ?_
  refine lv_iadd hx hb dL_law_811 ?_
  refine va_sld hx hb hX hbl hbA hS h1 dL_law_812 ?_
  refine lawM C0 (m_X7_fewest e2) rfl k_L_92 S ⟨Nat.le_of_ble_eq_true rfl, Nat.le_of_ble_eq_true rfl⟩ rfl rfl hl.1 (Nat.le_of_ble_eq_true rfl) dL_law_813 ⟨Nat.le_of_ble_eq_true rfl, Nat.le_of_ble_eq_true rfl⟩ hPC hPM hS (fun H locs hPC hPM hS => ?_)
  refine W.eq (g2 := F0 m 816 ls [.int r, .int r]) rfl ?_
  refine lv_icmp_eq (tgt := 1479) hx hb dL_law_816 (by decide) (fun _ => ?_) (fun c9 => absurd rfl c9)
  exact hnx _ _ hR' H locs ls hPC hPM hS (lv_sub hl [0, 1, 2, 3] rfl)

set_option maxRecDepth 100000 in
set_option maxHeartbeats 4000000 in
theorem law_18 (C0 : LStat s D cc a a2 tU adK adV) (S : CallFix p m c code 4 s #[Value.ref b] gtbl RL) (hX : va_X b L xs s s.heap) (hbl : b < s.heap.size) {i : Int32} (h1 : vp_in (i + 1) L) (h2 : vp_in (i + 2) L) (h3 : vp_in (i + 3) L) (h4 : vp_in (i + 4) L) (h5 : vp_in (i + 5) L) (hst : ST_18 Rel) {u v : Mem} (hR : Rel u v) (hnx : ∀ u' v', Rel u' v' → LW p l e s m below meth c b D cc a a2 u' v' 1479 i) : LW p l e s m below meth c b D cc a a2 u v 821 i := by
  intro H locs ls hPC hPM hS hl
  have hbA : ¬ (fun z : Nat => s.heap.size ≤ z) b := Nat.not_le.mpr hbl
  obtain ⟨hx, hb, hml, hown, hts⟩ := id S
  refine lv_aload_n hx hb dL_law_821 rfl (lv_at hl 1 rfl) ?_
  refine lv_aload_n hx hb dL_law_822 rfl (lv_at hl 0 rfl) ?_
  refine lv_iload_n hx hb dL_law_823 rfl (lv_at hl 3 rfl) ?_
  refine lv_iconst (v := 1) hx hb dL_law_824 (by decide) ?_
  refine lv_iadd hx hb dL_law_825 ?_
  refine va_sld hx hb hX hbl hbA hS h1 dL_law_826 ?_
  obtain ⟨r, u', v', e1, e2, hR'⟩ := hst u v (xs (i + (1 : Int32)).toNatClampNeg) hR
  refine lawC C0 (m_X6_alone e1) rfl k_L_93 S ⟨Nat.le_of_ble_eq_true rfl, Nat.le_of_ble_eq_true rfl⟩ rfl rfl hl.1 (Nat.le_of_ble_eq_true rfl) dL_law_827 ⟨Nat.le_of_ble_eq_true rfl, Nat.le_of_ble_eq_true rfl⟩ hPC hPM hS (fun H locs hPC hPM hS => ?_)
  refine W.eq (g2 := F0 m 830 ls [.int r]) rfl ?_
  refine lv_aload_n hx hb dL_law_830 rfl (lv_at hl 2 rfl) ?_
  refine lv_aload_n hx hb dL_law_831 rfl (lv_at hl 0 rfl) ?_
  refine lv_iload_n hx hb dL_law_832 rfl (lv_at hl 3 rfl) ?_
  refine lv_iconst (v := 1) hx hb dL_law_833 (by decide) ?_
  refine lv_iadd hx hb dL_law_834 ?_
  refine va_sld hx hb hX hbl hbA hS h1 dL_law_835 ?_
  refine lawM C0 (m_X7_alone e2) rfl k_L_96 S ⟨Nat.le_of_ble_eq_true rfl, Nat.le_of_ble_eq_true rfl⟩ rfl rfl hl.1 (Nat.le_of_ble_eq_true rfl) dL_law_836 ⟨Nat.le_of_ble_eq_true rfl, Nat.le_of_ble_eq_true rfl⟩ hPC hPM hS (fun H locs hPC hPM hS => ?_)
  refine W.eq (g2 := F0 m 839 ls [.int r, .int r]) rfl ?_
  refine lv_icmp_eq (tgt := 1479) hx hb dL_law_839 (by decide) (fun _ => ?_) (fun c9 => absurd rfl c9)
  exact hnx _ _ hR' H locs ls hPC hPM hS (lv_sub hl [0, 1, 2, 3] rfl)

set_option maxRecDepth 100000 in
set_option maxHeartbeats 4000000 in
theorem law_19 (C0 : LStat s D cc a a2 tU adK adV) (S : CallFix p m c code 4 s #[Value.ref b] gtbl RL) (hX : va_X b L xs s s.heap) (hbl : b < s.heap.size) {i : Int32} (h1 : vp_in (i + 1) L) (h2 : vp_in (i + 2) L) (h3 : vp_in (i + 3) L) (h4 : vp_in (i + 4) L) (h5 : vp_in (i + 5) L) (hst : ST_19 Rel) {u v : Mem} (hR : Rel u v) (hnx : ∀ u' v', Rel u' v' → LW p l e s m below meth c b D cc a a2 u' v' 1479 i) : LW p l e s m below meth c b D cc a a2 u v 844 i := by
  intro H locs ls hPC hPM hS hl
  have hbA : ¬ (fun z : Nat => s.heap.size ≤ z) b := Nat.not_le.mpr hbl
  obtain ⟨hx, hb, hml, hown, hts⟩ := id S
  refine lv_aload_n hx hb dL_law_844 rfl (lv_at hl 1 rfl) ?_
  refine lv_aload_n hx hb dL_law_845 rfl (lv_at hl 0 rfl) ?_
  refine lv_iload_n hx hb dL_law_846 rfl (lv_at hl 3 rfl) ?_
  refine lv_iconst (v := 1) hx hb dL_law_847 (by decide) ?_
  refine lv_iadd hx hb dL_law_848 ?_
  refine va_sld hx hb hX hbl hbA hS h1 dL_law_849 ?_
  obtain ⟨r, u', v', e1, e2, hR'⟩ := hst u v (xs (i + (1 : Int32)).toNatClampNeg) hR
  refine lawC C0 (m_X6_orders e1) rfl k_L_97 S ⟨Nat.le_of_ble_eq_true rfl, Nat.le_of_ble_eq_true rfl⟩ rfl rfl hl.1 (Nat.le_of_ble_eq_true rfl) dL_law_850 ⟨Nat.le_of_ble_eq_true rfl, Nat.le_of_ble_eq_true rfl⟩ hPC hPM hS (fun H locs hPC hPM hS => ?_)
  refine W.eq (g2 := F0 m 853 ls [.int r]) rfl ?_
  refine lv_aload_n hx hb dL_law_853 rfl (lv_at hl 2 rfl) ?_
  refine lv_aload_n hx hb dL_law_854 rfl (lv_at hl 0 rfl) ?_
  refine lv_iload_n hx hb dL_law_855 rfl (lv_at hl 3 rfl) ?_
  refine lv_iconst (v := 1) hx hb dL_law_856 (by decide) ?_
  refine lv_iadd hx hb dL_law_857 ?_
  refine va_sld hx hb hX hbl hbA hS h1 dL_law_858 ?_
  refine lawM C0 (m_X7_orders e2) rfl k_L_100 S ⟨Nat.le_of_ble_eq_true rfl, Nat.le_of_ble_eq_true rfl⟩ rfl rfl hl.1 (Nat.le_of_ble_eq_true rfl) dL_law_859 ⟨Nat.le_of_ble_eq_true rfl, Nat.le_of_ble_eq_true rfl⟩ hPC hPM hS (fun H locs hPC hPM hS => ?_)
  refine W.eq (g2 := F0 m 862 ls [.int r, .int r]) rfl ?_
  refine lv_icmp_eq (tgt := 1479) hx hb dL_law_862 (by decide) (fun _ => ?_) (fun c9 => absurd rfl c9)
  exact hnx _ _ hR' H locs ls hPC hPM hS (lv_sub hl [0, 1, 2, 3] rfl)

set_option maxRecDepth 100000 in
set_option maxHeartbeats 4000000 in
theorem law_20 (C0 : LStat s D cc a a2 tU adK adV) (S : CallFix p m c code 4 s #[Value.ref b] gtbl RL) (hX : va_X b L xs s s.heap) (hbl : b < s.heap.size) {i : Int32} (h1 : vp_in (i + 1) L) (h2 : vp_in (i + 2) L) (h3 : vp_in (i + 3) L) (h4 : vp_in (i + 4) L) (h5 : vp_in (i + 5) L) (hst : ST_20 Rel) {u v : Mem} (hR : Rel u v) (hnx : ∀ u' v', Rel u' v' → LW p l e s m below meth c b D cc a a2 u' v' 1479 i) : LW p l e s m below meth c b D cc a a2 u v 867 i := by
  intro H locs ls hPC hPM hS hl
  have hbA : ¬ (fun z : Nat => s.heap.size ≤ z) b := Nat.not_le.mpr hbl
  obtain ⟨hx, hb, hml, hown, hts⟩ := id S
  refine lv_aload_n hx hb dL_law_867 rfl (lv_at hl 1 rfl) ?_
  refine lv_aload_n hx hb dL_law_868 rfl (lv_at hl 0 rfl) ?_
  refine lv_iload_n hx hb dL_law_869 rfl (lv_at hl 3 rfl) ?_
  refine lv_iconst (v := 1) hx hb dL_law_870 (by decide) ?_
  refine lv_iadd hx hb dL_law_871 ?_
  refine va_sld hx hb hX hbl hbA hS h1 dL_law_872 ?_
  refine lv_aload_n hx hb dL_law_873 rfl (lv_at hl 0 rfl) ?_
  refine lv_iload_n hx hb dL_law_874 rfl (lv_at hl 3 rfl) ?_
  refine lv_iconst (v := 2) hx hb dL_law_875 (by decide) ?_
  refine lv_iadd hx hb dL_law_876 ?_
  refine va_sld hx hb hX hbl hbA hS h2 dL_law_877 ?_
  obtain ⟨r, u', v', e1, e2, hR'⟩ := hst u v (xs (i + (1 : Int32)).toNatClampNeg) (xs (i + (2 : Int32)).toNatClampNeg) hR
  refine lawC C0 (m_X6_ith e1) rfl k_L_101 S ⟨Nat.le_of_ble_eq_true rfl, Nat.le_of_ble_eq_true rfl⟩ rfl rfl hl.1 (Nat.le_of_ble_eq_true rfl) dL_law_878 ⟨Nat.le_of_ble_eq_true rfl, Nat.le_of_ble_eq_true rfl⟩ hPC hPM hS (fun H locs hPC hPM hS => ?_)
  refine W.eq (g2 := F0 m 881 ls [.int r]) rfl ?_
  refine lv_aload_n hx hb dL_law_881 rfl (lv_at hl 2 rfl) ?_
  refine lv_aload_n hx hb dL_law_882 rfl (lv_at hl 0 rfl) ?_
  refine lv_iload_n hx hb dL_law_883 rfl (lv_at hl 3 rfl) ?_
  refine lv_iconst (v := 1) hx hb dL_law_884 (by decide) ?_
  refine lv_iadd hx hb dL_law_885 ?_
  refine va_sld hx hb hX hbl hbA hS h1 dL_law_886 ?_
  refine lv_aload_n hx hb dL_law_887 rfl (lv_at hl 0 rfl) ?_
  refine lv_iload_n hx hb dL_law_888 rfl (lv_at hl 3 rfl) ?_
  refine lv_iconst (v := 2) hx hb dL_law_889 (by decide) ?_
  refine lv_iadd hx hb dL_law_890 ?_
  refine va_sld hx hb hX hbl hbA hS h2 dL_law_891 ?_
  refine lawM C0 (m_X7_ith e2) rfl k_L_104 S ⟨Nat.le_of_ble_eq_true rfl, Nat.le_of_ble_eq_true rfl⟩ rfl rfl hl.1 (Nat.le_of_ble_eq_true rfl) dL_law_892 ⟨Nat.le_of_ble_eq_true rfl, Nat.le_of_ble_eq_true rfl⟩ hPC hPM hS (fun H locs hPC hPM hS => ?_)
  refine W.eq (g2 := F0 m 895 ls [.int r, .int r]) rfl ?_
  refine lv_icmp_eq (tgt := 1479) hx hb dL_law_895 (by decide) (fun _ => ?_) (fun c9 => absurd rfl c9)
  exact hnx _ _ hR' H locs ls hPC hPM hS (lv_sub hl [0, 1, 2, 3] rfl)

set_option maxRecDepth 100000 in
set_option maxHeartbeats 4000000 in
theorem law_21 (C0 : LStat s D cc a a2 tU adK adV) (S : CallFix p m c code 4 s #[Value.ref b] gtbl RL) (hX : va_X b L xs s s.heap) (hbl : b < s.heap.size) {i : Int32} (h1 : vp_in (i + 1) L) (h2 : vp_in (i + 2) L) (h3 : vp_in (i + 3) L) (h4 : vp_in (i + 4) L) (h5 : vp_in (i + 5) L) (hst : ST_21 Rel) {u v : Mem} (hR : Rel u v) (hnx : ∀ u' v', Rel u' v' → LW p l e s m below meth c b D cc a a2 u' v' 1479 i) : LW p l e s m below meth c b D cc a a2 u v 900 i := by
  intro H locs ls hPC hPM hS hl
  have hbA : ¬ (fun z : Nat => s.heap.size ≤ z) b := Nat.not_le.mpr hbl
  obtain ⟨hx, hb, hml, hown, hts⟩ := id S
  refine lv_aload_n hx hb dL_law_900 rfl (lv_at hl 1 rfl) ?_
  refine lv_aload_n hx hb dL_law_901 rfl (lv_at hl 0 rfl) ?_
  refine lv_iload_n hx hb dL_law_902 rfl (lv_at hl 3 rfl) ?_
  refine lv_iconst (v := 1) hx hb dL_law_903 (by decide) ?_
  refine lv_iadd hx hb dL_law_904 ?_
  refine va_sld hx hb hX hbl hbA hS h1 dL_law_905 ?_
  obtain ⟨r, u', v', e1, e2, hR'⟩ := hst u v (xs (i + (1 : Int32)).toNatClampNeg) hR
  refine lawC C0 (m_X6_falseDate e1) rfl k_L_105 S ⟨Nat.le_of_ble_eq_true rfl, Nat.le_of_ble_eq_true rfl⟩ rfl rfl hl.1 (Nat.le_of_ble_eq_true rfl) dL_law_906 ⟨Nat.le_of_ble_eq_true rfl, Nat.le_of_ble_eq_true rfl⟩ hPC hPM hS (fun H locs hPC hPM hS => ?_)
  refine W.eq (g2 := F0 m 909 ls [.int r]) rfl ?_
  refine lv_aload_n hx hb dL_law_909 rfl (lv_at hl 2 rfl) ?_
  refine lv_aload_n hx hb dL_law_910 rfl (lv_at hl 0 rfl) ?_
  refine lv_iload_n hx hb dL_law_911 rfl (lv_at hl 3 rfl) ?_
  refine lv_iconst (v := 1) hx hb dL_law_912 (by decide) ?_
  refine lv_iadd hx hb dL_law_913 ?_
  refine va_sld hx hb hX hbl hbA hS h1 dL_law_914 ?_
  refine lawM C0 (m_X7_falseDate e2) rfl k_L_108 S ⟨Nat.le_of_ble_eq_true rfl, Nat.le_of_ble_eq_true rfl⟩ rfl rfl hl.1 (Nat.le_of_ble_eq_true rfl) dL_law_915 ⟨Nat.le_of_ble_eq_true rfl, Nat.le_of_ble_eq_true rfl⟩ hPC hPM hS (fun H locs hPC hPM hS => ?_)
  refine W.eq (g2 := F0 m 918 ls [.int r, .int r]) rfl ?_
  refine lv_icmp_eq (tgt := 1479) hx hb dL_law_918 (by decide) (fun _ => ?_) (fun c9 => absurd rfl c9)
  exact hnx _ _ hR' H locs ls hPC hPM hS (lv_sub hl [0, 1, 2, 3] rfl)

set_option maxRecDepth 100000 in
set_option maxHeartbeats 4000000 in
theorem law_22 (C0 : LStat s D cc a a2 tU adK adV) (S : CallFix p m c code 4 s #[Value.ref b] gtbl RL) (hX : va_X b L xs s s.heap) (hbl : b < s.heap.size) {i : Int32} (h1 : vp_in (i + 1) L) (h2 : vp_in (i + 2) L) (h3 : vp_in (i + 3) L) (h4 : vp_in (i + 4) L) (h5 : vp_in (i + 5) L) (hst : ST_22 Rel) {u v : Mem} (hR : Rel u v) (hnx : ∀ u' v', Rel u' v' → LW p l e s m below meth c b D cc a a2 u' v' 1479 i) : LW p l e s m below meth c b D cc a a2 u v 923 i := by
  intro H locs ls hPC hPM hS hl
  have hbA : ¬ (fun z : Nat => s.heap.size ≤ z) b := Nat.not_le.mpr hbl
  obtain ⟨hx, hb, hml, hown, hts⟩ := id S
  refine lv_aload_n hx hb dL_law_923 rfl (lv_at hl 1 rfl) ?_
  refine lv_aload_n hx hb dL_law_924 rfl (lv_at hl 0 rfl) ?_
  refine lv_iload_n hx hb dL_law_925 rfl (lv_at hl 3 rfl) ?_
  refine lv_iconst (v := 1) hx hb dL_law_926 (by decide) ?_
  refine lv_iadd hx hb dL_law_927 ?_
  refine va_sld hx hb hX hbl hbA hS h1 dL_law_928 ?_
  refine lv_aload_n hx hb dL_law_929 rfl (lv_at hl 0 rfl) ?_
  refine lv_iload_n hx hb dL_law_930 rfl (lv_at hl 3 rfl) ?_
  refine lv_iconst (v := 2) hx hb dL_law_931 (by decide) ?_
  refine lv_iadd hx hb dL_law_932 ?_
  refine va_sld hx hb hX hbl hbA hS h2 dL_law_933 ?_
  obtain ⟨r, u', v', e1, e2, hR'⟩ := hst u v (xs (i + (1 : Int32)).toNatClampNeg) (xs (i + (2 : Int32)).toNatClampNeg) hR
  refine lawC C0 (m_X6_had e1) rfl k_L_109 S ⟨Nat.le_of_ble_eq_true rfl, Nat.le_of_ble_eq_true rfl⟩ rfl rfl hl.1 (Nat.le_of_ble_eq_true rfl) dL_law_934 ⟨Nat.le_of_ble_eq_true rfl, Nat.le_of_ble_eq_true rfl⟩ hPC hPM hS (fun H locs hPC hPM hS => ?_)
  refine W.eq (g2 := F0 m 937 ls [.long r]) rfl ?_
  refine lv_aload_n hx hb dL_law_937 rfl (lv_at hl 2 rfl) ?_
  refine lv_aload_n hx hb dL_law_938 rfl (lv_at hl 0 rfl) ?_
  refine lv_iload_n hx hb dL_law_939 rfl (lv_at hl 3 rfl) ?_
  refine lv_iconst (v := 1) hx hb dL_law_940 (by decide) ?_
  refine lv_iadd hx hb dL_law_941 ?_
  refine va_sld hx hb hX hbl hbA hS h1 dL_law_942 ?_
  refine lv_aload_n hx hb dL_law_943 rfl (lv_at hl 0 rfl) ?_
  refine lv_iload_n hx hb dL_law_944 rfl (lv_at hl 3 rfl) ?_
  refine lv_iconst (v := 2) hx hb dL_law_945 (by decide) ?_
  refine lv_iadd hx hb dL_law_946 ?_
  refine va_sld hx hb hX hbl hbA hS h2 dL_law_947 ?_
  refine lawM C0 (m_X7_had e2) rfl k_L_112 S ⟨Nat.le_of_ble_eq_true rfl, Nat.le_of_ble_eq_true rfl⟩ rfl rfl hl.1 (Nat.le_of_ble_eq_true rfl) dL_law_948 ⟨Nat.le_of_ble_eq_true rfl, Nat.le_of_ble_eq_true rfl⟩ hPC hPM hS (fun H locs hPC hPM hS => ?_)
  refine W.eq (g2 := F0 m 951 ls [.long r, .long r]) rfl ?_
  refine W.lcmp hx hb dL_law_951 ?_
  refine lv_if_eq (tgt := 1479) hx hb dL_law_952 (by decide) (fun _ => ?_) (fun c9 => absurd (lg_self _) c9)
  exact hnx _ _ hR' H locs ls hPC hPM hS (lv_sub hl [0, 1, 2, 3] rfl)

set_option maxRecDepth 100000 in
set_option maxHeartbeats 4000000 in
theorem law_23 (C0 : LStat s D cc a a2 tU adK adV) (S : CallFix p m c code 4 s #[Value.ref b] gtbl RL) (hX : va_X b L xs s s.heap) (hbl : b < s.heap.size) {i : Int32} (h1 : vp_in (i + 1) L) (h2 : vp_in (i + 2) L) (h3 : vp_in (i + 3) L) (h4 : vp_in (i + 4) L) (h5 : vp_in (i + 5) L) (hst : ST_23 Rel) {u v : Mem} (hR : Rel u v) (hnx : ∀ u' v', Rel u' v' → LW p l e s m below meth c b D cc a a2 u' v' 1479 i) : LW p l e s m below meth c b D cc a a2 u v 957 i := by
  intro H locs ls hPC hPM hS hl
  have hbA : ¬ (fun z : Nat => s.heap.size ≤ z) b := Nat.not_le.mpr hbl
  obtain ⟨hx, hb, hml, hown, hts⟩ := id S
  refine lv_aload_n hx hb dL_law_957 rfl (lv_at hl 1 rfl) ?_
  refine lv_aload_n hx hb dL_law_958 rfl (lv_at hl 0 rfl) ?_
  refine lv_iload_n hx hb dL_law_959 rfl (lv_at hl 3 rfl) ?_
  refine lv_iconst (v := 1) hx hb dL_law_960 (by decide) ?_
  refine lv_iadd hx hb dL_law_961 ?_
  refine va_sld hx hb hX hbl hbA hS h1 dL_law_962 ?_
  refine lv_aload_n hx hb dL_law_963 rfl (lv_at hl 0 rfl) ?_
  refine lv_iload_n hx hb dL_law_964 rfl (lv_at hl 3 rfl) ?_
  refine lv_iconst (v := 2) hx hb dL_law_965 (by decide) ?_
  refine lv_iadd hx hb dL_law_966 ?_
  refine va_sld hx hb hX hbl hbA hS h2 dL_law_967 ?_
  obtain ⟨r, u', v', e1, e2, hR'⟩ := hst u v (xs (i + (1 : Int32)).toNatClampNeg) (xs (i + (2 : Int32)).toNatClampNeg) hR
  refine lawC C0 (m_X6_hadNot e1) rfl k_L_113 S ⟨Nat.le_of_ble_eq_true rfl, Nat.le_of_ble_eq_true rfl⟩ rfl rfl hl.1 (Nat.le_of_ble_eq_true rfl) dL_law_968 ⟨Nat.le_of_ble_eq_true rfl, Nat.le_of_ble_eq_true rfl⟩ hPC hPM hS (fun H locs hPC hPM hS => ?_)
  refine W.eq (g2 := F0 m 971 ls [.long r]) rfl ?_
  refine lv_aload_n hx hb dL_law_971 rfl (lv_at hl 2 rfl) ?_
  refine lv_aload_n hx hb dL_law_972 rfl (lv_at hl 0 rfl) ?_
  refine lv_iload_n hx hb dL_law_973 rfl (lv_at hl 3 rfl) ?_
  refine lv_iconst (v := 1) hx hb dL_law_974 (by decide) ?_
  refine lv_iadd hx hb dL_law_975 ?_
  refine va_sld hx hb hX hbl hbA hS h1 dL_law_976 ?_
  refine lv_aload_n hx hb dL_law_977 rfl (lv_at hl 0 rfl) ?_
  refine lv_iload_n hx hb dL_law_978 rfl (lv_at hl 3 rfl) ?_
  refine lv_iconst (v := 2) hx hb dL_law_979 (by decide) ?_
  refine lv_iadd hx hb dL_law_980 ?_
  refine va_sld hx hb hX hbl hbA hS h2 dL_law_981 ?_
  refine lawM C0 (m_X7_hadNot e2) rfl k_L_116 S ⟨Nat.le_of_ble_eq_true rfl, Nat.le_of_ble_eq_true rfl⟩ rfl rfl hl.1 (Nat.le_of_ble_eq_true rfl) dL_law_982 ⟨Nat.le_of_ble_eq_true rfl, Nat.le_of_ble_eq_true rfl⟩ hPC hPM hS (fun H locs hPC hPM hS => ?_)
  refine W.eq (g2 := F0 m 985 ls [.long r, .long r]) rfl ?_
  refine W.lcmp hx hb dL_law_985 ?_
  refine lv_if_eq (tgt := 1479) hx hb dL_law_986 (by decide) (fun _ => ?_) (fun c9 => absurd (lg_self _) c9)
  exact hnx _ _ hR' H locs ls hPC hPM hS (lv_sub hl [0, 1, 2, 3] rfl)

set_option maxRecDepth 100000 in
set_option maxHeartbeats 4000000 in
theorem law_24 (C0 : LStat s D cc a a2 tU adK adV) (S : CallFix p m c code 4 s #[Value.ref b] gtbl RL) (hX : va_X b L xs s s.heap) (hbl : b < s.heap.size) {i : Int32} (h1 : vp_in (i + 1) L) (h2 : vp_in (i + 2) L) (h3 : vp_in (i + 3) L) (h4 : vp_in (i + 4) L) (h5 : vp_in (i + 5) L) (hst : ST_24 Rel) {u v : Mem} (hR : Rel u v) (hnx : ∀ u' v', Rel u' v' → LW p l e s m below meth c b D cc a a2 u' v' 1479 i) : LW p l e s m below meth c b D cc a a2 u v 991 i := by
  intro H locs ls hPC hPM hS hl
  have hbA : ¬ (fun z : Nat => s.heap.size ≤ z) b := Nat.not_le.mpr hbl
  obtain ⟨hx, hb, hml, hown, hts⟩ := id S
  refine lv_aload_n hx hb dL_law_991 rfl (lv_at hl 1 rfl) ?_
  refine lv_aload_n hx hb dL_law_992 rfl (lv_at hl 0 rfl) ?_
  refine lv_iload_n hx hb dL_law_993 rfl (lv_at hl 3 rfl) ?_
  refine lv_iconst (v := 1) hx hb dL_law_994 (by decide) ?_
  refine lv_iadd hx hb dL_law_995 ?_
  refine va_sld hx hb hX hbl hbA hS h1 dL_law_996 ?_
  obtain ⟨r, u', v', e1, e2, hR'⟩ := hst u v (xs (i + (1 : Int32)).toNatClampNeg) hR
  refine lawC C0 (m_X6_castOf e1) rfl k_L_117 S ⟨Nat.le_of_ble_eq_true rfl, Nat.le_of_ble_eq_true rfl⟩ rfl rfl hl.1 (Nat.le_of_ble_eq_true rfl) dL_law_997 ⟨Nat.le_of_ble_eq_true rfl, Nat.le_of_ble_eq_true rfl⟩ hPC hPM hS (fun H locs hPC hPM hS => ?_)
  refine W.eq (g2 := F0 m 1000 ls [.int r]) rfl ?_
  refine lv_aload_n hx hb dL_law_1000 rfl (lv_at hl 2 rfl) ?_
  refine lv_aload_n hx hb dL_law_1001 rfl (lv_at hl 0 rfl) ?_
  refine lv_iload_n hx hb dL_law_1002 rfl (lv_at hl 3 rfl) ?_
  refine lv_iconst (v := 1) hx hb dL_law_1003 (by decide) ?_
  refine lv_iadd hx hb dL_law_1004 ?_
  refine va_sld hx hb hX hbl hbA hS h1 dL_law_1005 ?_
  refine lawM C0 (m_X7_castOf e2) rfl k_L_120 S ⟨Nat.le_of_ble_eq_true rfl, Nat.le_of_ble_eq_true rfl⟩ rfl rfl hl.1 (Nat.le_of_ble_eq_true rfl) dL_law_1006 ⟨Nat.le_of_ble_eq_true rfl, Nat.le_of_ble_eq_true rfl⟩ hPC hPM hS (fun H locs hPC hPM hS => ?_)
  refine W.eq (g2 := F0 m 1009 ls [.int r, .int r]) rfl ?_
  refine lv_icmp_eq (tgt := 1479) hx hb dL_law_1009 (by decide) (fun _ => ?_) (fun c9 => absurd rfl c9)
  exact hnx _ _ hR' H locs ls hPC hPM hS (lv_sub hl [0, 1, 2, 3] rfl)

set_option maxRecDepth 100000 in
set_option maxHeartbeats 4000000 in
theorem law_25 (C0 : LStat s D cc a a2 tU adK adV) (S : CallFix p m c code 4 s #[Value.ref b] gtbl RL) (hX : va_X b L xs s s.heap) (hbl : b < s.heap.size) {i : Int32} (h1 : vp_in (i + 1) L) (h2 : vp_in (i + 2) L) (h3 : vp_in (i + 3) L) (h4 : vp_in (i + 4) L) (h5 : vp_in (i + 5) L) (hst : ST_25 Rel) {u v : Mem} (hR : Rel u v) (hnx : ∀ u' v', Rel u' v' → LW p l e s m below meth c b D cc a a2 u' v' 1479 i) : LW p l e s m below meth c b D cc a a2 u v 1014 i := by
  intro H locs ls hPC hPM hS hl
  have hbA : ¬ (fun z : Nat => s.heap.size ≤ z) b := Nat.not_le.mpr hbl
  obtain ⟨hx, hb, hml, hown, hts⟩ := id S
  refine lv_aload_n hx hb dL_law_1014 rfl (lv_at hl 1 rfl) ?_
  refine lv_aload_n hx hb dL_law_1015 rfl (lv_at hl 0 rfl) ?_
  refine lv_iload_n hx hb dL_law_1016 rfl (lv_at hl 3 rfl) ?_
  refine lv_iconst (v := 1) hx hb dL_law_1017 (by decide) ?_
  refine lv_iadd hx hb dL_law_1018 ?_
  refine va_sld hx hb hX hbl hbA hS h1 dL_law_1019 ?_
  obtain ⟨r, u', v', e1, e2, hR'⟩ := hst u v (xs (i + (1 : Int32)).toNatClampNeg) hR
  refine lawC C0 (m_X6_deep e1) rfl k_L_121 S ⟨Nat.le_of_ble_eq_true rfl, Nat.le_of_ble_eq_true rfl⟩ rfl rfl hl.1 (Nat.le_of_ble_eq_true rfl) dL_law_1020 ⟨Nat.le_of_ble_eq_true rfl, Nat.le_of_ble_eq_true rfl⟩ hPC hPM hS (fun H locs hPC hPM hS => ?_)
  refine W.eq (g2 := F0 m 1023 ls [.int r]) rfl ?_
  refine lv_aload_n hx hb dL_law_1023 rfl (lv_at hl 2 rfl) ?_
  refine lv_aload_n hx hb dL_law_1024 rfl (lv_at hl 0 rfl) ?_
  refine lv_iload_n hx hb dL_law_1025 rfl (lv_at hl 3 rfl) ?_
  refine lv_iconst (v := 1) hx hb dL_law_1026 (by decide) ?_
  refine lv_iadd hx hb dL_law_1027 ?_
  refine va_sld hx hb hX hbl hbA hS h1 dL_law_1028 ?_
  refine lawM C0 (m_X7_deep e2) rfl k_L_124 S ⟨Nat.le_of_ble_eq_true rfl, Nat.le_of_ble_eq_true rfl⟩ rfl rfl hl.1 (Nat.le_of_ble_eq_true rfl) dL_law_1029 ⟨Nat.le_of_ble_eq_true rfl, Nat.le_of_ble_eq_true rfl⟩ hPC hPM hS (fun H locs hPC hPM hS => ?_)
  refine W.eq (g2 := F0 m 1032 ls [.int r, .int r]) rfl ?_
  refine lv_icmp_eq (tgt := 1479) hx hb dL_law_1032 (by decide) (fun _ => ?_) (fun c9 => absurd rfl c9)
  exact hnx _ _ hR' H locs ls hPC hPM hS (lv_sub hl [0, 1, 2, 3] rfl)

set_option maxRecDepth 100000 in
set_option maxHeartbeats 4000000 in
theorem law_26 (C0 : LStat s D cc a a2 tU adK adV) (S : CallFix p m c code 4 s #[Value.ref b] gtbl RL) (hX : va_X b L xs s s.heap) (hbl : b < s.heap.size) {i : Int32} (h1 : vp_in (i + 1) L) (h2 : vp_in (i + 2) L) (h3 : vp_in (i + 3) L) (h4 : vp_in (i + 4) L) (h5 : vp_in (i + 5) L) (hst : ST_26 Rel) {u v : Mem} (hR : Rel u v) (hnx : ∀ u' v', Rel u' v' → LW p l e s m below meth c b D cc a a2 u' v' 1479 i) : LW p l e s m below meth c b D cc a a2 u v 1037 i := by
  intro H locs ls hPC hPM hS hl
  have hbA : ¬ (fun z : Nat => s.heap.size ≤ z) b := Nat.not_le.mpr hbl
  obtain ⟨hx, hb, hml, hown, hts⟩ := id S
  refine lv_aload_n hx hb dL_law_1037 rfl (lv_at hl 1 rfl) ?_
  obtain ⟨r, u', v', e1, e2, hR'⟩ := hst u v  hR
  refine lawC C0 (m_X6_tell e1) rfl k_L_125 S ⟨Nat.le_of_ble_eq_true rfl, Nat.le_of_ble_eq_true rfl⟩ rfl rfl hl.1 (Nat.le_of_ble_eq_true rfl) dL_law_1038 ⟨Nat.le_of_ble_eq_true rfl, Nat.le_of_ble_eq_true rfl⟩ hPC hPM hS (fun H locs hPC hPM hS => ?_)
  refine W.eq (g2 := F0 m 1041 ls [.int r]) rfl ?_
  refine lv_aload_n hx hb dL_law_1041 rfl (lv_at hl 2 rfl) ?_
  refine lawM C0 (m_X7_tell e2) rfl k_L_129 S ⟨Nat.le_of_ble_eq_true rfl, Nat.le_of_ble_eq_true rfl⟩ rfl rfl hl.1 (Nat.le_of_ble_eq_true rfl) dL_law_1042 ⟨Nat.le_of_ble_eq_true rfl, Nat.le_of_ble_eq_true rfl⟩ hPC hPM hS (fun H locs hPC hPM hS => ?_)
  refine W.eq (g2 := F0 m 1045 ls [.int r, .int r]) rfl ?_
  refine lv_icmp_eq (tgt := 1479) hx hb dL_law_1045 (by decide) (fun _ => ?_) (fun c9 => absurd rfl c9)
  exact hnx _ _ hR' H locs ls hPC hPM hS (lv_sub hl [0, 1, 2, 3] rfl)

set_option maxRecDepth 100000 in
set_option maxHeartbeats 4000000 in
theorem law_27 (C0 : LStat s D cc a a2 tU adK adV) (S : CallFix p m c code 4 s #[Value.ref b] gtbl RL) (hX : va_X b L xs s s.heap) (hbl : b < s.heap.size) {i : Int32} (h1 : vp_in (i + 1) L) (h2 : vp_in (i + 2) L) (h3 : vp_in (i + 3) L) (h4 : vp_in (i + 4) L) (h5 : vp_in (i + 5) L) (hst : ST_27 Rel) {u v : Mem} (hR : Rel u v) (hnx : ∀ u' v', Rel u' v' → LW p l e s m below meth c b D cc a a2 u' v' 1479 i) : LW p l e s m below meth c b D cc a a2 u v 1050 i := by
  intro H locs ls hPC hPM hS hl
  have hbA : ¬ (fun z : Nat => s.heap.size ≤ z) b := Nat.not_le.mpr hbl
  obtain ⟨hx, hb, hml, hown, hts⟩ := id S
  refine lv_aload_n hx hb dL_law_1050 rfl (lv_at hl 1 rfl) ?_
  refine lv_aload_n hx hb dL_law_1051 rfl (lv_at hl 0 rfl) ?_
  refine lv_iload_n hx hb dL_law_1052 rfl (lv_at hl 3 rfl) ?_
  refine lv_iconst (v := 1) hx hb dL_law_1053 (by decide) ?_
  refine lv_iadd hx hb dL_law_1054 ?_
  refine va_sld hx hb hX hbl hbA hS h1 dL_law_1055 ?_
  obtain ⟨r, u', v', e1, e2, hR'⟩ := hst u v (xs (i + (1 : Int32)).toNatClampNeg) hR
  refine lawC C0 (m_X6_kind e1) rfl k_L_130 S ⟨Nat.le_of_ble_eq_true rfl, Nat.le_of_ble_eq_true rfl⟩ rfl rfl hl.1 (Nat.le_of_ble_eq_true rfl) dL_law_1056 ⟨Nat.le_of_ble_eq_true rfl, Nat.le_of_ble_eq_true rfl⟩ hPC hPM hS (fun H locs hPC hPM hS => ?_)
  refine W.eq (g2 := F0 m 1059 ls [.int r]) rfl ?_
  refine lv_aload_n hx hb dL_law_1059 rfl (lv_at hl 2 rfl) ?_
  refine lv_aload_n hx hb dL_law_1060 rfl (lv_at hl 0 rfl) ?_
  refine lv_iload_n hx hb dL_law_1061 rfl (lv_at hl 3 rfl) ?_
  refine lv_iconst (v := 1) hx hb dL_law_1062 (by decide) ?_
  refine lv_iadd hx hb dL_law_1063 ?_
  refine va_sld hx hb hX hbl hbA hS h1 dL_law_1064 ?_
  refine lawM C0 (m_X7_kind e2) rfl k_L_133 S ⟨Nat.le_of_ble_eq_true rfl, Nat.le_of_ble_eq_true rfl⟩ rfl rfl hl.1 (Nat.le_of_ble_eq_true rfl) dL_law_1065 ⟨Nat.le_of_ble_eq_true rfl, Nat.le_of_ble_eq_true rfl⟩ hPC hPM hS (fun H locs hPC hPM hS => ?_)
  refine W.eq (g2 := F0 m 1068 ls [.int r, .int r]) rfl ?_
  refine lv_icmp_eq (tgt := 1479) hx hb dL_law_1068 (by decide) (fun _ => ?_) (fun c9 => absurd rfl c9)
  exact hnx _ _ hR' H locs ls hPC hPM hS (lv_sub hl [0, 1, 2, 3] rfl)

set_option maxRecDepth 100000 in
set_option maxHeartbeats 4000000 in
theorem law_28 (C0 : LStat s D cc a a2 tU adK adV) (S : CallFix p m c code 4 s #[Value.ref b] gtbl RL) (hX : va_X b L xs s s.heap) (hbl : b < s.heap.size) {i : Int32} (h1 : vp_in (i + 1) L) (h2 : vp_in (i + 2) L) (h3 : vp_in (i + 3) L) (h4 : vp_in (i + 4) L) (h5 : vp_in (i + 5) L) (hst : ST_28 Rel) {u v : Mem} (hR : Rel u v) (hnx : ∀ u' v', Rel u' v' → LW p l e s m below meth c b D cc a a2 u' v' 1479 i) : LW p l e s m below meth c b D cc a a2 u v 1073 i := by
  intro H locs ls hPC hPM hS hl
  have hbA : ¬ (fun z : Nat => s.heap.size ≤ z) b := Nat.not_le.mpr hbl
  obtain ⟨hx, hb, hml, hown, hts⟩ := id S
  refine lv_aload_n hx hb dL_law_1073 rfl (lv_at hl 1 rfl) ?_
  obtain ⟨r, u', v', e1, e2, hR'⟩ := hst u v  hR
  refine lawC C0 (m_X6_pairs e1) rfl k_L_134 S ⟨Nat.le_of_ble_eq_true rfl, Nat.le_of_ble_eq_true rfl⟩ rfl rfl hl.1 (Nat.le_of_ble_eq_true rfl) dL_law_1074 ⟨Nat.le_of_ble_eq_true rfl, Nat.le_of_ble_eq_true rfl⟩ hPC hPM hS (fun H locs hPC hPM hS => ?_)
  refine W.eq (g2 := F0 m 1077 ls [.int r]) rfl ?_
  refine lv_aload_n hx hb dL_law_1077 rfl (lv_at hl 2 rfl) ?_
  refine lawM C0 (m_X7_pairs e2) rfl k_L_137 S ⟨Nat.le_of_ble_eq_true rfl, Nat.le_of_ble_eq_true rfl⟩ rfl rfl hl.1 (Nat.le_of_ble_eq_true rfl) dL_law_1078 ⟨Nat.le_of_ble_eq_true rfl, Nat.le_of_ble_eq_true rfl⟩ hPC hPM hS (fun H locs hPC hPM hS => ?_)
  refine W.eq (g2 := F0 m 1081 ls [.int r, .int r]) rfl ?_
  refine lv_icmp_eq (tgt := 1479) hx hb dL_law_1081 (by decide) (fun _ => ?_) (fun c9 => absurd rfl c9)
  exact hnx _ _ hR' H locs ls hPC hPM hS (lv_sub hl [0, 1, 2, 3] rfl)

set_option maxRecDepth 100000 in
set_option maxHeartbeats 4000000 in
theorem law_29 (C0 : LStat s D cc a a2 tU adK adV) (S : CallFix p m c code 4 s #[Value.ref b] gtbl RL) (hX : va_X b L xs s s.heap) (hbl : b < s.heap.size) {i : Int32} (h1 : vp_in (i + 1) L) (h2 : vp_in (i + 2) L) (h3 : vp_in (i + 3) L) (h4 : vp_in (i + 4) L) (h5 : vp_in (i + 5) L) (hst : ST_29 Rel) {u v : Mem} (hR : Rel u v) (hnx : ∀ u' v', Rel u' v' → LW p l e s m below meth c b D cc a a2 u' v' 1479 i) : LW p l e s m below meth c b D cc a a2 u v 1086 i := by
  intro H locs ls hPC hPM hS hl
  have hbA : ¬ (fun z : Nat => s.heap.size ≤ z) b := Nat.not_le.mpr hbl
  obtain ⟨hx, hb, hml, hown, hts⟩ := id S
  refine lv_aload_n hx hb dL_law_1086 rfl (lv_at hl 1 rfl) ?_
  refine lv_aload_n hx hb dL_law_1087 rfl (lv_at hl 0 rfl) ?_
  refine lv_iload_n hx hb dL_law_1088 rfl (lv_at hl 3 rfl) ?_
  refine lv_iconst (v := 1) hx hb dL_law_1089 (by decide) ?_
  refine lv_iadd hx hb dL_law_1090 ?_
  refine va_sld hx hb hX hbl hbA hS h1 dL_law_1091 ?_
  refine lv_aload_n hx hb dL_law_1092 rfl (lv_at hl 0 rfl) ?_
  refine lv_iload_n hx hb dL_law_1093 rfl (lv_at hl 3 rfl) ?_
  refine lv_iconst (v := 2) hx hb dL_law_1094 (by decide) ?_
  refine lv_iadd hx hb dL_law_1095 ?_
  refine va_sld hx hb hX hbl hbA hS h2 dL_law_1096 ?_
  obtain ⟨r, u', v', e1, e2, hR'⟩ := hst u v (xs (i + (1 : Int32)).toNatClampNeg) (xs (i + (2 : Int32)).toNatClampNeg) hR
  refine lawC C0 (m_X6_feed e1) rfl k_L_138 S ⟨Nat.le_of_ble_eq_true rfl, Nat.le_of_ble_eq_true rfl⟩ rfl rfl hl.1 (Nat.le_of_ble_eq_true rfl) dL_law_1097 ⟨Nat.le_of_ble_eq_true rfl, Nat.le_of_ble_eq_true rfl⟩ hPC hPM hS (fun H locs hPC hPM hS => ?_)
  refine W.eq (g2 := F0 m 1100 ls [.int r]) rfl ?_
  refine lv_aload_n hx hb dL_law_1100 rfl (lv_at hl 2 rfl) ?_
  refine lv_aload_n hx hb dL_law_1101 rfl (lv_at hl 0 rfl) ?_
  refine lv_iload_n hx hb dL_law_1102 rfl (lv_at hl 3 rfl) ?_
  refine lv_iconst (v := 1) hx hb dL_law_1103 (by decide) ?_
  refine lv_iadd hx hb dL_law_1104 ?_
  refine va_sld hx hb hX hbl hbA hS h1 dL_law_1105 ?_
  refine lv_aload_n hx hb dL_law_1106 rfl (lv_at hl 0 rfl) ?_
  refine lv_iload_n hx hb dL_law_1107 rfl (lv_at hl 3 rfl) ?_
  refine lv_iconst (v := 2) hx hb dL_law_1108 (by decide) ?_
  refine lv_iadd hx hb dL_law_1109 ?_
  refine va_sld hx hb hX hbl hbA hS h2 dL_law_1110 ?_
  refine lawM C0 (m_X7_feed e2) rfl k_L_141 S ⟨Nat.le_of_ble_eq_true rfl, Nat.le_of_ble_eq_true rfl⟩ rfl rfl hl.1 (Nat.le_of_ble_eq_true rfl) dL_law_1111 ⟨Nat.le_of_ble_eq_true rfl, Nat.le_of_ble_eq_true rfl⟩ hPC hPM hS (fun H locs hPC hPM hS => ?_)
  refine W.eq (g2 := F0 m 1114 ls [.int r, .int r]) rfl ?_
  refine lv_icmp_eq (tgt := 1479) hx hb dL_law_1114 (by decide) (fun _ => ?_) (fun c9 => absurd rfl c9)
  exact hnx _ _ hR' H locs ls hPC hPM hS (lv_sub hl [0, 1, 2, 3] rfl)
end
