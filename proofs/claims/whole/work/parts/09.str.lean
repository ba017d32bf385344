
theorem sp_eq {α β : Type} {a c : α} {b d : β} (h : some (a, b) = some (c, d)) : c = a ∧ d = b := by
  have h1 := Option.some.inj h
  exact ⟨(congrArg Prod.fst h1).symm, (congrArg Prod.snd h1).symm⟩
theorem sv_eq {α : Type} {a c : α} (h : some a = some c) : c = a := (Option.some.inj h).symm
theorem ne_toInt {x : Int32} {z : Int} {k : Int32} (h : ¬ x = k) (hz : z = k.toInt) : x.toInt ≠ z := fun e => h (Int32.toInt_inj.mp (e.trans hz))
def gc {β : Type} (sp dp n : Int32) (x : Option β) : Option β := if sp < 0 ∨ dp < 0 ∨ n < 0 ∨ 40 < sp.toNatClampNeg + n.toNatClampNeg ∨ 40 < dp.toNatClampNeg + n.toNatClampNeg then none else x
theorem gc_some {β : Type} {sp dp n : Int32} {x : Option β} {z : β} (h : gc sp dp n x = some z) : ¬ (sp < 0 ∨ dp < 0 ∨ n < 0 ∨ 40 < sp.toNatClampNeg + n.toNatClampNeg ∨ 40 < dp.toNatClampNeg + n.toNatClampNeg) ∧ x = some z := by
  unfold gc at h
  by_cases c : sp < 0 ∨ dp < 0 ∨ n < 0 ∨ 40 < sp.toNatClampNeg + n.toNatClampNeg ∨ 40 < dp.toNatClampNeg + n.toNatClampNeg
  · rw [if_pos c] at h; cases h
  · rw [if_neg c] at h; exact ⟨c, h⟩
def cpL (u : Mem) (i j : Nat) (sp dp n : Int32) : Mem := (u.1, fun x y => if x = j then va_cpy (u.2 i) (u.2 j) sp.toNatClampNeg dp.toNatClampNeg n.toNatClampNeg y else u.2 x y)
theorem ceC_cpL {cc : Nat → ClassId} {a : Nat → Nat} {u : Mem} {i j k : Nat} {sp dp n : Int32} (h : k ≠ j) : ceC cc a (cpL u i j sp dp n) k = ceC cc a u k := by
  have e2 : (cpL u i j sp dp n).2 k = u.2 k := funext (fun b => if_neg h)
  have e3 : (cpL u i j sp dp n).1 = u.1 := rfl
  unfold ceC
  rw [e2, e3]
theorem z_cpL {cc : Nat → ClassId} {a : Nat → Nat} {u : Mem} {i t : Nat} {sp dp n : Int32} (h : t < 4) : (wlC cc a u).set (t + 23) (a (t + 23), .inl (cc 1, 40, .inr (.inl (va_cpy (u.2 i) (u.2 (t + 23)) sp.toNatClampNeg dp.toNatClampNeg n.toNatClampNeg)))) = wlC cc a (cpL u i (t + 23) sp dp n) := by
  refine wlC_set (by omega) ?_ (fun _ h => ceC_cpL h)
  have e2 : (cpL u i (t + 23) sp dp n).2 (t + 23) = va_cpy (u.2 i) (u.2 (t + 23)) sp.toNatClampNeg dp.toNatClampNeg n.toNatClampNeg := funext (fun b => if_pos rfl)
  rw [← e2]
  rcases (show t = 0 ∨ t = 1 ∨ t = 2 ∨ t = 3 by omega) with rfl | rfl | rfl | rfl <;> rfl
def CTN (y : MethodName) (b : ByteArray) (mL : Nat) (rt : Option FieldType) (n : Nat) : Prop :=
  (Cond.static y ∈ gtbl ∧ Cond.initialized y.cls ∈ gtbl ∧ Cond.code y b mL rt ∈ gtbl) ∧ y.cls ≠ "java/lang/invoke/MethodHandle" ∧ y.cls ≠ "java/lang/invoke/VarHandle" ∧ (parseMethodDescriptor y.desc).map (fun d => d.parameters.length) = some n
section
variable {p : Program} {l : Launch} {e : Env} {R : Room} {s : State} {m : MethodId} {args : Array Value} {below : List Frame} {meth : Method} {c : Code} {H : Heap} {locs : List Loc} {cells slots : Nat} {Q : State → Prop}
variable {D : va_G} {tys : List (ClassId × FieldType)} {A : Nat → Prop} {E : State → Prop} {y : MethodName} {b cc : ByteArray} {mL nL fr lo n index : Nat} {rt : Option FieldType} {As rest st0 : List Value} {w w2 : va_W} {r : Option Value} {own host : String} {pc : Nat} {ls : Array Slot} {bb : Nat}
theorem MM.callSNi {x : Int32} (hM : MM l D tys A E y b mL rt fr lo As w (some (.int x)) w2) (hcv : CTN y b mL rt n) (hl : va_Nw (.methodLinkNest own index y host) s) (S : CallFix p m c cc nL s args gtbl own) (hE : EnvOK A E) (hEs : E s) (hK : va_K D vwCl tys s) (hR : fr + 1 ≤ R.frames ∧ 8 + (mL + 11) + lo ≤ R.locals)
    (hn : As.length = n) (hst : st0 = As.reverse ++ rest) (hsize : ls.size = nL) (hW : (rest.map fun v => v.category).sum ≤ 8) (hdg : decode cc pc = .ok (.invokestatic index, 3)) (hf : cells ≤ R.cells ∧ slots ≤ R.slots)
    (hP : va_P D vwCl w H) (hD : va_D A w) (hS : va_S A s.heap H locs)
    (kk : ∀ (H1 : Heap) (locs1 : List Loc), va_P D vwCl w2 H1 → va_D A w2 → va_S A s.heap H1 locs1 → W p l e R s m args below meth c H1 locs1 cells slots Q (F0 m (pc + 3) ls (.int x :: rest))) : W p l e R s m args below meth c H locs cells slots Q (F0 m pc ls st0) := by
  obtain ⟨⟨g2, g3, g4⟩, g6⟩ := hcv
  exact MM.run (r := some (.int x)) (va_runSN (As := As) (rest := rest) S hM ⟨va_cnB n S.2.2.2.2 (fun w hw => by
    rcases List.mem_cons.mp hw with rfl | hw
    · exact gtbl_good _ g4
    · exact gtbl_good _ hw) rfl rfl rfl hl (S.2.2.2.2 _ g3) g6 hR, S.2.2.2.2 _ g2, trivial⟩ ⟨MPre.blind hE _, MPre.at hE hP hD hS hK hEs _⟩ rfl hn hsize hst (lv_room hW) hdg hf) hS kk
theorem cCopy {cl : Nat → ClassId} {a : Nat → Nat} {u : Mem} {t0 t1 : Nat} {sp dp k : Int32} (S : CallFix p m c cc nL s args gtbl own) (hsz : ls.size = nL) (hlink : (Cond.methodLink own index arraycopyName).before args s = true) (hnat : (Cond.native arraycopyName).before args s = true) (hstat : (Cond.static arraycopyName).before args s = true) (hini : (Cond.initialized "java/lang/System").before args s = true)
    (hK : va_K D vwCl (tysC cl) s) (hP : va_P D vwCl (wlC cl a u) H) (hD : va_D A (wlC cl a u)) (hS : va_S A s.heap H locs) (h0 : t0 < 4) (h1 : t1 < 4) (hc : ¬ (sp < 0 ∨ dp < 0 ∨ k < 0 ∨ 40 < sp.toNatClampNeg + k.toNatClampNeg ∨ 40 < dp.toNatClampNeg + k.toNatClampNeg))
    (hfr : 1 ≤ R.frames) (hlo : (rest.map fun v => v.category).sum + (nativeFrameWords "java/lang/System" "arraycopy" 5 + 11) ≤ R.locals) (hdg : decode cc pc = .ok (.invokestatic index, 3))
    (kk : ∀ (H1 : Heap) (locs1 : List Loc), va_P D vwCl (wlC cl a (cpL u (t0 + 23) (t1 + 23) sp dp k)) H1 → va_D A (wlC cl a (cpL u (t0 + 23) (t1 + 23) sp dp k)) → va_S A s.heap H1 locs1 → W p l e R s m args below meth c H1 locs1 cells slots Q (F0 m (pc + 3) ls rest)) : W p l e R s m args below meth c H locs cells slots Q (F0 m pc ls (.int k :: .int dp :: .ref (a (t1 + 23)) :: .int sp :: .ref (a (t0 + 23)) :: rest)) :=
  va_copyl S.1 S.2.1 (S.2.2.1.trans hsz.symm) S.2.2.2.1 hlink hnat hstat hini hK hP hD hS (t0 + 23) (t1 + 23) 1 1 (c_LA h0) (c_LA h1) rfl rfl rfl (fun z => hc (Or.inl z)) (fun z => hc (Or.inr (Or.inl z))) (fun z => hc (Or.inr (Or.inr (Or.inl z)))) (Nat.not_lt.mp (fun z => hc (Or.inr (Or.inr (Or.inr (Or.inl z)))))) (Nat.not_lt.mp (fun z => hc (Or.inr (Or.inr (Or.inr (Or.inr z)))))) (fun _ _ => rfl) hfr hlo hdg (fun H1 locs1 g1 g2 g3 => kk H1 locs1 (z_cpL h1 ▸ g1) (z_cpL h1 ▸ g2) g3)
end

theorem k_J0_335 : CV RJ0 335 yJ0_coder_7d493 cJ0_coder_7d493 1 (some .byte) 0 := ⟨⟨q706, q707, q708, q75, q709⟩, by decide, by decide, by decide +kernel⟩
theorem k_J0_492 : CV RJ0 492 yJ0_isLatin1_aae02 cJ0_isLatin1_aae02 1 (some .boolean) 0 := ⟨⟨q716, q717, q718, q75, q719⟩, by decide, by decide, by decide +kernel⟩
theorem k_J0_495 : CT RJ0 495 yJ1_charAt_3b067 cJ1_charAt_3b067 2 (some .char) 2 := ⟨⟨q720, q721, q76, q722⟩, by decide, by decide, by decide +kernel⟩
theorem k_J0_1059 : CT RJ0 1059 yJ3_checkIndex_8e157 cJ3_checkIndex_8e157 3 (some .int) 3 := ⟨⟨q728, q729, q77, q730⟩, by decide, by decide, by decide +kernel⟩
theorem k_J1_9 : CT RJ1 9 yJ0_checkIndex_df160 cJ0_checkIndex_df160 2 none 2 := ⟨⟨q723, q724, q75, q725⟩, by decide, by decide, by decide +kernel⟩
section
variable {l : Launch} {D : va_G} {cc : Nat → ClassId} {a : Nat → Nat} {tU : Nat} {adK adV : Nat → Nat}
set_option maxRecDepth 100000 in
set_option maxHeartbeats 4000000 in
theorem mS_coder {u : Mem} {i : Nat} (hi : i < 11) : MC l D cc a tU adK adV yJ0_coder_7d493 cJ0_coder_7d493 1 (some .byte) 0 0 [.ref (adK i)] u (some (.int 0)) u := by
  refine MM.ofW (by decide) (fun p e s m below meth c S hr hlocks hK hEs hP hD hS => ?_)
  have S : CallFix p m c cJ0_coder_7d493 1 s _ gtbl RJ0 := S
  obtain ⟨hx, hb, hml, hown, hts⟩ := id S
  have hl := lv_entry ([.ref (adK i)]) (n := 1) (Nat.le_of_ble_eq_true rfl)
  rw [lg_entry_eq]
  generalize (lg_sl ([.ref (adK i)]) ++ List.replicate (1 - (lg_sl ([.ref (adK i)])).length) Slot.unset).toArray = ls at hl ⊢
  have hl : lv_has ls 1 [(0, .ref (adK i))] := hl
  refine va_gets hx hb hEs.2.2.1 hS hown (hts _ q710) (fun _ h9 => h9) dJ0_coder_7d493_0 ?_
  refine lv_if_eq (tgt := 13) hx hb dJ0_coder_7d493_3 (by decide) (fun c1 => absurd c1 (by decide)) (fun c1 => ?_)
  refine lv_aload_n hx hb dJ0_coder_7d493_6 rfl (lv_at hl 0 rfl) ?_
  refine vk_getf hx hb (hEs.2.2.2.2.1.1 i hi).2.1 hS hown (hts _ q1348) (fun _ h9 => h9) dJ0_coder_7d493_7 ?_
  refine lv_goto (tgt := 14) hx hb dJ0_coder_7d493_10 (by decide) ?_
  exact W.zret hx hb hr rfl (fun t ht _ => ⟨⟨rfl, by rw [ht]; exact hP, hD⟩, hS.F ht⟩) hS.2.2 dJ0_coder_7d493_14 hlocks

set_option maxRecDepth 100000 in
set_option maxHeartbeats 4000000 in
theorem mS_latin {u : Mem} {i : Nat} (hi : i < 11) : MC l D cc a tU adK adV yJ0_isLatin1_aae02 cJ0_isLatin1_aae02 1 (some .boolean) 0 0 [.ref (adK i)] u (some (.int 1)) u := by
  refine MM.ofW (by decide) (fun p e s m below meth c S hr hlocks hK hEs hP hD hS => ?_)
  have S : CallFix p m c cJ0_isLatin1_aae02 1 s _ gtbl RJ0 := S
  obtain ⟨hx, hb, hml, hown, hts⟩ := id S
  have hl := lv_entry ([.ref (adK i)]) (n := 1) (Nat.le_of_ble_eq_true rfl)
  rw [lg_entry_eq]
  generalize (lg_sl ([.ref (adK i)]) ++ List.replicate (1 - (lg_sl ([.ref (adK i)])).length) Slot.unset).toArray = ls at hl ⊢
  have hl : lv_has ls 1 [(0, .ref (adK i))] := hl
  refine va_gets hx hb hEs.2.2.1 hS hown (hts _ q710) (fun _ h9 => h9) dJ0_isLatin1_aae02_0 ?_
  refine lv_if_eq (tgt := 17) hx hb dJ0_isLatin1_aae02_3 (by decide) (fun c1 => absurd c1 (by decide)) (fun c1 => ?_)
  refine lv_aload_n hx hb dJ0_isLatin1_aae02_6 rfl (lv_at hl 0 rfl) ?_
  refine vk_getf hx hb (hEs.2.2.2.2.1.1 i hi).2.1 hS hown (hts _ q1348) (fun _ h9 => h9) dJ0_isLatin1_aae02_7 ?_
  refine lv_if_ne (tgt := 17) hx hb dJ0_isLatin1_aae02_10 (by decide) (fun c1 => absurd rfl c1) (fun c1 => ?_)
  refine lv_iconst (v := 1) hx hb dJ0_isLatin1_aae02_13 (by decide) ?_
  refine lv_goto (tgt := 18) hx hb dJ0_isLatin1_aae02_14 (by decide) ?_
  exact retZ S hr hlocks hP hD hS (by decide) dJ0_isLatin1_aae02_18

theorem len11_ok : ∀ i, i < 11 → (Int32.ofNat (len11.getD i 0)) >>> ((0 : Int32) &&& 31) = nI (len11.getD i 0) := by decide +kernel
set_option maxRecDepth 100000 in
set_option maxHeartbeats 4000000 in
theorem mS_length {u : Mem} {i : Nat} (hi : i < 11) : MC l D cc a tU adK adV yJ0_length_8abf5 cJ0_length_8abf5 1 (some .int) 1 20 [.ref (adK i)] u (some (.int (nI (len11.getD i 0)))) u := by
  refine MM.ofW (by decide) (fun p e s m below meth c S hr hlocks hK hEs hP hD hS => ?_)
  have S : CallFix p m c cJ0_length_8abf5 1 s _ gtbl RJ0 := S
  obtain ⟨hx, hb, hml, hown, hts⟩ := id S
  have hl := lv_entry ([.ref (adK i)]) (n := 1) (Nat.le_of_ble_eq_true rfl)
  rw [lg_entry_eq]
  generalize (lg_sl ([.ref (adK i)]) ++ List.replicate (1 - (lg_sl ([.ref (adK i)])).length) Slot.unset).toArray = ls at hl ⊢
  have hl : lv_has ls 1 [(0, .ref (adK i))] := hl
  refine lv_aload_n hx hb dJ0_length_8abf5_0 rfl (lv_at hl 0 rfl) ?_
  refine vk_getf hx hb (hEs.2.2.2.2.1.1 i hi).2.2.1 hS hown (hts _ q1347) (fun _ h9 => h9) dJ0_length_8abf5_1 ?_
  refine va_tlen hx hb (hEs.2.2.2.2.1.1 i hi).2.2.2 hS rfl dJ0_length_8abf5_4 ?_
  refine lv_aload_n hx hb dJ0_length_8abf5_5 rfl (lv_at hl 0 rfl) ?_
  refine MM.callVi (mS_coder hi) k_J0_335 S ecOK hEs hK ⟨by decide, by decide⟩ (vk_recv hEs.2.2.2.2.1 hi hS) rfl rfl hl.1 (Nat.le_of_ble_eq_true rfl) dJ0_length_8abf5_6 ⟨Nat.le_refl _, Nat.le_refl _⟩ hP hD hS (fun H locs hP hD hS => ?_)
  refine lv_ishr hx hb dJ0_length_8abf5_9 ?_
  rw [len11_ok i hi]
  exact retI S hr hlocks hP hD hS dJ0_length_8abf5_10

set_option maxRecDepth 100000 in
set_option maxHeartbeats 4000000 in
theorem mP_checkN {u : Mem} {k n : Int32} (h1 : ¬ k < 0) (h2 : k < n) : MC l D cc a tU adK adV yJ3_checkIndex_8e157 cJ3_checkIndex_8e157 3 (some .int) 0 0 [.int k, .int n, .null] u (some (.int k)) u := by
  refine MM.ofW (by decide) (fun p e s m below meth c S hr hlocks hK hEs hP hD hS => ?_)
  have S : CallFix p m c cJ3_checkIndex_8e157 3 s _ gtbl RJ3 := S
  obtain ⟨hx, hb, hml, hown, hts⟩ := id S
  have hl := lv_entry ([.int k, .int n, .null]) (n := 3) (Nat.le_of_ble_eq_true rfl)
  rw [lg_entry_eq]
  generalize (lg_sl ([.int k, .int n, .null]) ++ List.replicate (3 - (lg_sl ([.int k, .int n, .null])).length) Slot.unset).toArray = ls at hl ⊢
  have hl : lv_has ls 3 [(0, .int k), (1, .int n), (2, .null)] := hl
  refine lv_iload_n hx hb dJ3_checkIndex_8e157_0 rfl (lv_at hl 0 rfl) ?_
  refine lv_if_lt (tgt := 9) hx hb dJ3_checkIndex_8e157_1 (by decide) (fun c1 => absurd c1 h1) (fun c1 => ?_)
  refine lv_iload_n hx hb dJ3_checkIndex_8e157_4 rfl (lv_at hl 0 rfl) ?_
  refine lv_iload_n hx hb dJ3_checkIndex_8e157_5 rfl (lv_at hl 1 rfl) ?_
  refine lv_icmp_lt (tgt := 16) hx hb dJ3_checkIndex_8e157_6 (by decide) (fun c1 => ?_) (fun c1 => absurd h2 c1)
  refine lv_iload_n hx hb dJ3_checkIndex_8e157_16 rfl (lv_at hl 0 rfl) ?_
  exact retI S hr hlocks hP hD hS dJ3_checkIndex_8e157_17

set_option maxRecDepth 100000 in
set_option maxHeartbeats 4000000 in
theorem mP_checkR {u : Mem} {k n : Int32} {t : Nat} (h1 : ¬ k < 0) (h2 : k < n) : MC l D cc a tU adK adV yJ3_checkIndex_8e157 cJ3_checkIndex_8e157 3 (some .int) 0 0 [.int k, .int n, .ref t] u (some (.int k)) u := by
  refine MM.ofW (by decide) (fun p e s m below meth c S hr hlocks hK hEs hP hD hS => ?_)
  have S : CallFix p m c cJ3_checkIndex_8e157 3 s _ gtbl RJ3 := S
  obtain ⟨hx, hb, hml, hown, hts⟩ := id S
  have hl := lv_entry ([.int k, .int n, .ref t]) (n := 3) (Nat.le_of_ble_eq_true rfl)
  rw [lg_entry_eq]
  generalize (lg_sl ([.int k, .int n, .ref t]) ++ List.replicate (3 - (lg_sl ([.int k, .int n, .ref t])).length) Slot.unset).toArray = ls at hl ⊢
  have hl : lv_has ls 3 [(0, .int k), (1, .int n), (2, .ref t)] := hl
  refine lv_iload_n hx hb dJ3_checkIndex_8e157_0 rfl (lv_at hl 0 rfl) ?_
  refine lv_if_lt (tgt := 9) hx hb dJ3_checkIndex_8e157_1 (by decide) (fun c1 => absurd c1 h1) (fun c1 => ?_)
  refine lv_iload_n hx hb dJ3_checkIndex_8e157_4 rfl (lv_at hl 0 rfl) ?_
  refine lv_iload_n hx hb dJ3_checkIndex_8e157_5 rfl (lv_at hl 1 rfl) ?_
  refine lv_icmp_lt (tgt := 16) hx hb dJ3_checkIndex_8e157_6 (by decide) (fun c1 => ?_) (fun c1 => absurd h2 c1)
  refine lv_iload_n hx hb dJ3_checkIndex_8e157_16 rfl (lv_at hl 0 rfl) ?_
  exact retI S hr hlocks hP hD hS dJ3_checkIndex_8e157_17

set_option maxRecDepth 100000 in
set_option maxHeartbeats 4000000 in
theorem mS_check {u : Mem} {k n : Int32} (h1 : ¬ k < 0) (h2 : k < n) : MC l D cc a tU adK adV yJ0_checkIndex_df160 cJ0_checkIndex_df160 2 none 1 22 [.int k, .int n] u none u := by
  refine MM.ofW (by decide) (fun p e s m below meth c S hr hlocks hK hEs hP hD hS => ?_)
  have S : CallFix p m c cJ0_checkIndex_df160 2 s _ gtbl RJ0 := S
  obtain ⟨hx, hb, hml, hown, hts⟩ := id S
  have hl := lv_entry ([.int k, .int n]) (n := 2) (Nat.le_of_ble_eq_true rfl)
  rw [lg_entry_eq]
  generalize (lg_sl ([.int k, .int n]) ++ List.replicate (2 - (lg_sl ([.int k, .int n])).length) Slot.unset).toArray = ls at hl ⊢
  have hl : lv_has ls 2 [(0, .int k), (1, .int n)] := hl
  refine lv_iload_n hx hb dJ0_checkIndex_df160_0 rfl (lv_at hl 0 rfl) ?_
  refine lv_iload_n hx hb dJ0_checkIndex_df160_1 rfl (lv_at hl 1 rfl) ?_
  rcases hEs.2.2.2.1 with hZ | ⟨t, hZ⟩
  · refine va_gets hx hb hZ hS hown (hts _ q726) (fun _ h9 => h9) dJ0_checkIndex_df160_2 ?_
    refine MM.callSi (mP_checkN h1 h2) k_J0_1059 S ecOK hEs hK ⟨by decide, by decide⟩ rfl rfl hl.1 (Nat.le_of_ble_eq_true rfl) dJ0_checkIndex_df160_5 ⟨Nat.le_refl _, Nat.le_refl _⟩ hP hD hS (fun H locs hP hD hS => ?_)
    refine lv_pop hx hb dJ0_checkIndex_df160_8 rfl ?_
    exact retV S hr hlocks hP hD hS dJ0_checkIndex_df160_9
  · refine va_gets hx hb hZ hS hown (hts _ q726) (fun _ h9 => h9) dJ0_checkIndex_df160_2 ?_
    refine MM.callSi (mP_checkR h1 h2) k_J0_1059 S ecOK hEs hK ⟨by decide, by decide⟩ rfl rfl hl.1 (Nat.le_of_ble_eq_true rfl) dJ0_checkIndex_df160_5 ⟨Nat.le_refl _, Nat.le_refl _⟩ hP hD hS (fun H locs hP hD hS => ?_)
    refine lv_pop hx hb dJ0_checkIndex_df160_8 rfl ?_
    exact retV S hr hlocks hP hD hS dJ0_checkIndex_df160_9

theorem byt11_lt {i : Nat} (hi : i < 11) {k : Int32} (h : vp_in k (len11.getD i 0)) : ¬ k < 0 ∧ k < Int32.ofNat (len11.getD i 0) := by
  have h31 : len11.getD i 0 < 2 ^ 31 := (show ∀ i, i < 11 → len11.getD i 0 < 2 ^ 31 by decide +kernel) i hi
  obtain ⟨j, hj, rfl⟩ := vp_in_of h h31
  exact ⟨nI_pos (by omega), nI_lt hj h31⟩
set_option maxRecDepth 100000 in
set_option maxHeartbeats 4000000 in
theorem mS_l1 {u : Mem} {i : Nat} {k : Int32} (hi : i < 11) (h : vp_in k (len11.getD i 0)) : MC l D cc a tU adK adV yJ1_charAt_3b067 cJ1_charAt_3b067 2 (some .char) 2 43 [.ref (adV i), .int k] u (some (.int ((byt11.getD i []).getD k.toNatClampNeg 0 &&& 255))) u := by
  refine MM.ofW (by decide) (fun p e s m below meth c S hr hlocks hK hEs hP hD hS => ?_)
  have S : CallFix p m c cJ1_charAt_3b067 2 s _ gtbl RJ1 := S
  obtain ⟨hx, hb, hml, hown, hts⟩ := id S
  have hl := lv_entry ([.ref (adV i), .int k]) (n := 2) (Nat.le_of_ble_eq_true rfl)
  rw [lg_entry_eq]
  generalize (lg_sl ([.ref (adV i), .int k]) ++ List.replicate (2 - (lg_sl ([.ref (adV i), .int k])).length) Slot.unset).toArray = ls at hl ⊢
  have hl : lv_has ls 2 [(0, .ref (adV i)), (1, .int k)] := hl
  refine lv_iload_n hx hb dJ1_charAt_3b067_0 rfl (lv_at hl 1 rfl) ?_
  refine lv_aload_n hx hb dJ1_charAt_3b067_1 rfl (lv_at hl 0 rfl) ?_
  refine va_tlen hx hb (hEs.2.2.2.2.1.1 i hi).2.2.2 hS rfl dJ1_charAt_3b067_2 ?_
  refine MM.callSv (mS_check (byt11_lt hi h).1 (byt11_lt hi h).2) k_J1_9 S ecOK hEs hK ⟨by decide, by decide⟩ rfl rfl hl.1 (Nat.le_of_ble_eq_true rfl) dJ1_charAt_3b067_3 ⟨Nat.le_refl _, Nat.le_refl _⟩ hP hD hS (fun H locs hP hD hS => ?_)
  refine lv_aload_n hx hb dJ1_charAt_3b067_6 rfl (lv_at hl 0 rfl) ?_
  refine lv_iload_n hx hb dJ1_charAt_3b067_7 rfl (lv_at hl 1 rfl) ?_
  refine va_tb hx hb (hEs.2.2.2.2.1.1 i hi).2.2.2 hS h rfl dJ1_charAt_3b067_8 ?_
  refine lv_sipush (v := 255) hx hb dJ1_charAt_3b067_9 (by decide) ?_
  refine lv_iand hx hb dJ1_charAt_3b067_12 ?_
  refine lv_i2c hx hb dJ1_charAt_3b067_13 (sc_c2 _) ?_
  exact W.zret hx hb hr (sc_nar _) (fun t ht _ => ⟨⟨rfl, by rw [ht]; exact hP, hD⟩, hS.F ht⟩) hS.2.2 dJ1_charAt_3b067_14 hlocks

set_option maxRecDepth 100000 in
set_option maxHeartbeats 4000000 in
theorem mS_charAt {u : Mem} {i : Nat} {k : Int32} (hi : i < 11) (h : vp_in k (len11.getD i 0)) : MC l D cc a tU adK adV yJ0_charAt_5068e cJ0_charAt_5068e 2 (some .char) 4 85 [.ref (adK i), .int k] u (some (.int ((byt11.getD i []).getD k.toNatClampNeg 0 &&& 255))) u := by
  refine MM.ofW (by decide) (fun p e s m below meth c S hr hlocks hK hEs hP hD hS => ?_)
  have S : CallFix p m c cJ0_charAt_5068e 2 s _ gtbl RJ0 := S
  obtain ⟨hx, hb, hml, hown, hts⟩ := id S
  have hl := lv_entry ([.ref (adK i), .int k]) (n := 2) (Nat.le_of_ble_eq_true rfl)
  rw [lg_entry_eq]
  generalize (lg_sl ([.ref (adK i), .int k]) ++ List.replicate (2 - (lg_sl ([.ref (adK i), .int k])).length) Slot.unset).toArray = ls at hl ⊢
  have hl : lv_has ls 2 [(0, .ref (adK i)), (1, .int k)] := hl
  refine lv_aload_n hx hb dJ0_charAt_5068e_0 rfl (lv_at hl 0 rfl) ?_
  refine MM.callVi (mS_latin hi) k_J0_492 S ecOK hEs hK ⟨by decide, by decide⟩ (vk_recv hEs.2.2.2.2.1 hi hS) rfl rfl hl.1 (Nat.le_of_ble_eq_true rfl) dJ0_charAt_5068e_1 ⟨Nat.le_refl _, Nat.le_refl _⟩ hP hD hS (fun H locs hP hD hS => ?_)
  refine lv_if_eq (tgt := 16) hx hb dJ0_charAt_5068e_4 (by decide) (fun c1 => absurd c1 (by decide)) (fun c1 => ?_)
  refine lv_aload_n hx hb dJ0_charAt_5068e_7 rfl (lv_at hl 0 rfl) ?_
  refine vk_getf hx hb (hEs.2.2.2.2.1.1 i hi).2.2.1 hS hown (hts _ q1347) (fun _ h9 => h9) dJ0_charAt_5068e_8 ?_
  refine lv_iload_n hx hb dJ0_charAt_5068e_11 rfl (lv_at hl 1 rfl) ?_
  refine MM.callSi (mS_l1 hi h) k_J0_495 S ecOK hEs hK ⟨by decide, by decide⟩ rfl rfl hl.1 (Nat.le_of_ble_eq_true rfl) dJ0_charAt_5068e_12 ⟨Nat.le_refl _, Nat.le_refl _⟩ hP hD hS (fun H locs hP hD hS => ?_)
  exact W.zret hx hb hr (sc_nar _) (fun t ht _ => ⟨⟨rfl, by rw [ht]; exact hP, hD⟩, hS.F ht⟩) hS.2.2 dJ0_charAt_5068e_15 hlocks

end
