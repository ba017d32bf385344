/-! ROWS over worlds: reads and writes of fields, calls, blocks -/
section R7
variable {p : Program} {l : Launch} {e : Env} {R : Room} {s : State} {m : MethodId} {args : Array Value} {below : List Frame} {meth : Method} {c : Code} {H : Heap} {locs : List Loc} {cells slots : Nat} {Q : State → Prop}
variable {D : va_G} {tys : List (ClassId × FieldType)} {A : Nat → Prop} {E : State → Prop} {y : MethodName} {b cc : ByteArray} {mL nL fr lo n index : Nat} {rt : Option FieldType} {As rest st0 : List Value} {w w2 : va_W} {r : Option Value} {own : String} {pc : Nat} {ls : Array Slot} {bb : Nat}
theorem va_get_w {own ref C : String} {T : u_T} {N ci : Nat} {x : Nat} (S : CallFix p m c cc nL s args gtbl own) (hK : va_K D vwCl tys s) (hP : va_P D vwCl w H) (q0 : Nat) {fs : List Value} (he : w[q0]? = some (x, .inr (ci, fs))) (hc : vwCl[ci]? = some (C, T, N)) (hin : ∀ z ∈ u_ws C T N, z ∈ gtbl) (k : Nat) (hk : k < N) (hlink : Cond.fieldLink own index ref (T k).2.1 (T k).2.2.1 ∈ gtbl) (hsame : (T k).1 = ref) {v : Value} (hv : fs[k]? = some v) (hdg : decode cc pc = .ok (.getfield index, 3))
    (kk : W p l e R s m args below meth c H locs cells slots Q (F0 m (pc + 3) ls (v :: rest))) : W p l e R s m args below meth c H locs cells slots Q (F0 m pc ls (.ref x :: rest)) := by
  subst hsame
  exact va_get S.1 S.2.1 S.2.2.2.2 hin S.2.2.2.1 hK hP q0 he hc k hk (S.2.2.2.2 _ hlink) (fun _ h9 => h9) hv hdg kk
theorem MM.callVi {x : Int32} (hM : MM l D tys A E y b mL rt fr lo (.ref bb :: As) w (some (.int x)) w2) (hcv : CV own index y b mL rt n) (S : CallFix p m c cc nL s args gtbl own) (hE : EnvOK A E) (hEs : E s) (hK : va_K D vwCl tys s) (hR : fr + 1 ≤ R.frames ∧ 8 + (mL + 11) + lo ≤ R.locals)
    (hrecv : ∃ cell : Cell, H[bb]? = some cell ∧ cell.vm.isStatics = false ∧ s.vm.findClass y.cls = some cell.cls) (hn : As.length = n) (hst : st0 = As.reverse ++ .ref bb :: rest) (hsize : ls.size = nL) (hW : (rest.map fun v => v.category).sum ≤ 8) (hdg : decode cc pc = .ok (.invokevirtual index, 3)) (hf : cells ≤ R.cells ∧ slots ≤ R.slots)
    (hP : va_P D vwCl w H) (hD : va_D A w) (hS : va_S A s.heap H locs)
    (kk : ∀ (H1 : Heap) (locs1 : List Loc), va_P D vwCl w2 H1 → va_D A w2 → va_S A s.heap H1 locs1 → W p l e R s m args below meth c H1 locs1 cells slots Q (F0 m (pc + 3) ls (.int x :: rest))) : W p l e R s m args below meth c H locs cells slots Q (F0 m pc ls st0) :=
  MM.callV hM hcv S hE hEs hK hR hrecv hn hst hsize hW hdg hf hP hD hS kk
theorem MM.callVl {x : Int64} (hM : MM l D tys A E y b mL rt fr lo (.ref bb :: As) w (some (.long x)) w2) (hcv : CV own index y b mL rt n) (S : CallFix p m c cc nL s args gtbl own) (hE : EnvOK A E) (hEs : E s) (hK : va_K D vwCl tys s) (hR : fr + 1 ≤ R.frames ∧ 8 + (mL + 11) + lo ≤ R.locals)
    (hrecv : ∃ cell : Cell, H[bb]? = some cell ∧ cell.vm.isStatics = false ∧ s.vm.findClass y.cls = some cell.cls) (hn : As.length = n) (hst : st0 = As.reverse ++ .ref bb :: rest) (hsize : ls.size = nL) (hW : (rest.map fun v => v.category).sum ≤ 8) (hdg : decode cc pc = .ok (.invokevirtual index, 3)) (hf : cells ≤ R.cells ∧ slots ≤ R.slots)
    (hP : va_P D vwCl w H) (hD : va_D A w) (hS : va_S A s.heap H locs)
    (kk : ∀ (H1 : Heap) (locs1 : List Loc), va_P D vwCl w2 H1 → va_D A w2 → va_S A s.heap H1 locs1 → W p l e R s m args below meth c H1 locs1 cells slots Q (F0 m (pc + 3) ls (.long x :: rest))) : W p l e R s m args below meth c H locs cells slots Q (F0 m pc ls st0) :=
  MM.callV hM hcv S hE hEs hK hR hrecv hn hst hsize hW hdg hf hP hD hS kk
theorem MM.callVv (hM : MM l D tys A E y b mL rt fr lo (.ref bb :: As) w none w2) (hcv : CV own index y b mL rt n) (S : CallFix p m c cc nL s args gtbl own) (hE : EnvOK A E) (hEs : E s) (hK : va_K D vwCl tys s) (hR : fr + 1 ≤ R.frames ∧ 8 + (mL + 11) + lo ≤ R.locals)
    (hrecv : ∃ cell : Cell, H[bb]? = some cell ∧ cell.vm.isStatics = false ∧ s.vm.findClass y.cls = some cell.cls) (hn : As.length = n) (hst : st0 = As.reverse ++ .ref bb :: rest) (hsize : ls.size = nL) (hW : (rest.map fun v => v.category).sum ≤ 8) (hdg : decode cc pc = .ok (.invokevirtual index, 3)) (hf : cells ≤ R.cells ∧ slots ≤ R.slots)
    (hP : va_P D vwCl w H) (hD : va_D A w) (hS : va_S A s.heap H locs)
    (kk : ∀ (H1 : Heap) (locs1 : List Loc), va_P D vwCl w2 H1 → va_D A w2 → va_S A s.heap H1 locs1 → W p l e R s m args below meth c H1 locs1 cells slots Q (F0 m (pc + 3) ls rest)) : W p l e R s m args below meth c H locs cells slots Q (F0 m pc ls st0) :=
  MM.callV hM hcv S hE hEs hK hR hrecv hn hst hsize hW hdg hf hP hD hS kk
theorem MM.callSi {x : Int32} (hM : MM l D tys A E y b mL rt fr lo As w (some (.int x)) w2) (hcv : CT own index y b mL rt n) (S : CallFix p m c cc nL s args gtbl own) (hE : EnvOK A E) (hEs : E s) (hK : va_K D vwCl tys s) (hR : fr + 1 ≤ R.frames ∧ 8 + (mL + 11) + lo ≤ R.locals)
    (hn : As.length = n) (hst : st0 = As.reverse ++ rest) (hsize : ls.size = nL) (hW : (rest.map fun v => v.category).sum ≤ 8) (hdg : decode cc pc = .ok (.invokestatic index, 3)) (hf : cells ≤ R.cells ∧ slots ≤ R.slots)
    (hP : va_P D vwCl w H) (hD : va_D A w) (hS : va_S A s.heap H locs)
    (kk : ∀ (H1 : Heap) (locs1 : List Loc), va_P D vwCl w2 H1 → va_D A w2 → va_S A s.heap H1 locs1 → W p l e R s m args below meth c H1 locs1 cells slots Q (F0 m (pc + 3) ls (.int x :: rest))) : W p l e R s m args below meth c H locs cells slots Q (F0 m pc ls st0) :=
  MM.callS hM hcv S hE hEs hK hR hn hst hsize hW hdg hf hP hD hS kk
theorem MM.callSl {x : Int64} (hM : MM l D tys A E y b mL rt fr lo As w (some (.long x)) w2) (hcv : CT own index y b mL rt n) (S : CallFix p m c cc nL s args gtbl own) (hE : EnvOK A E) (hEs : E s) (hK : va_K D vwCl tys s) (hR : fr + 1 ≤ R.frames ∧ 8 + (mL + 11) + lo ≤ R.locals)
    (hn : As.length = n) (hst : st0 = As.reverse ++ rest) (hsize : ls.size = nL) (hW : (rest.map fun v => v.category).sum ≤ 8) (hdg : decode cc pc = .ok (.invokestatic index, 3)) (hf : cells ≤ R.cells ∧ slots ≤ R.slots)
    (hP : va_P D vwCl w H) (hD : va_D A w) (hS : va_S A s.heap H locs)
    (kk : ∀ (H1 : Heap) (locs1 : List Loc), va_P D vwCl w2 H1 → va_D A w2 → va_S A s.heap H1 locs1 → W p l e R s m args below meth c H1 locs1 cells slots Q (F0 m (pc + 3) ls (.long x :: rest))) : W p l e R s m args below meth c H locs cells slots Q (F0 m pc ls st0) :=
  MM.callS hM hcv S hE hEs hK hR hn hst hsize hW hdg hf hP hD hS kk
theorem MM.callSv (hM : MM l D tys A E y b mL rt fr lo As w none w2) (hcv : CT own index y b mL rt n) (S : CallFix p m c cc nL s args gtbl own) (hE : EnvOK A E) (hEs : E s) (hK : va_K D vwCl tys s) (hR : fr + 1 ≤ R.frames ∧ 8 + (mL + 11) + lo ≤ R.locals)
    (hn : As.length = n) (hst : st0 = As.reverse ++ rest) (hsize : ls.size = nL) (hW : (rest.map fun v => v.category).sum ≤ 8) (hdg : decode cc pc = .ok (.invokestatic index, 3)) (hf : cells ≤ R.cells ∧ slots ≤ R.slots)
    (hP : va_P D vwCl w H) (hD : va_D A w) (hS : va_S A s.heap H locs)
    (kk : ∀ (H1 : Heap) (locs1 : List Loc), va_P D vwCl w2 H1 → va_D A w2 → va_S A s.heap H1 locs1 → W p l e R s m args below meth c H1 locs1 cells slots Q (F0 m (pc + 3) ls rest)) : W p l e R s m args below meth c H locs cells slots Q (F0 m pc ls st0) :=
  MM.callS hM hcv S hE hEs hK hR hn hst hsize hW hdg hf hP hD hS kk
end R7
/-- a block: from a world of u with these locals and this stack the method comes to its end, with the answer r and the world w2 -/
def BW (p : Program) (l : Launch) (e : Env) (s : State) (m : MethodId) (below : List Frame) (meth : Method) (c : Code) (fr lo : Nat) (av : List Value) (D : va_G) (A : Nat → Prop) (r : Option Value) (w2 : va_W) (nL : Nat) (w : va_W) (pc : Nat) (lv : List (Nat × Value)) (st : List Value) : Prop :=
  ∀ (H : Heap) (locs : List Loc) (ls : Array Slot), va_P D vwCl w H → va_D A w → va_S A s.heap H locs → lv_has ls nL lv → W p l e { frames := fr, cells := 0, slots := 0, locals := lo } s m av.toArray below meth c H locs 0 0 (MQ below (MPost D A w2 r) av.toArray s 0 0 A) (F0 m pc ls st)
def fu : Nat := 5000
/-! what stands beside the class's world, and stays: the static row UNDER, the String constants -/
def ix11 : List Nat := [46, 55, 107, 109, 111, 113, 115, 117, 98, 102, 106]
def tx11 : List String := ["slack", "look", "print", "burnt", "cast", "forged", "recut", "melted", "width", "year", "seen"]
def len11 : List Nat := [5, 4, 5, 5, 4, 6, 5, 6, 5, 4, 4]
def byt11 : List (List Int32) := [[115, 108, 97, 99, 107], [108, 111, 111, 107], [112, 114, 105, 110, 116], [98, 117, 114, 110, 116], [99, 97, 115, 116], [102, 111, 114, 103, 101, 100], [114, 101, 99, 117, 116], [109, 101, 108, 116, 101, 100], [119, 105, 100, 116, 104], [121, 101, 97, 114], [115, 101, 101, 110]]
def un6 : List Int32 := [-1, 0, 0, 2, 0, 1]
def EC (tU : Nat) (adK adV : Nat → Nat) (A : Nat → Prop) (U : State) : Prop :=
  va_Z RX6 "UNDER" "[I" (.ref tU) A U U.heap ∧ va_T .int tU 6 (fun j => .int (un6.getD j 0)) A U U.heap ∧ va_Z RJ0 "COMPACT_STRINGS" "Z" (.int 1) A U U.heap ∧ va_Zq RJ3 "SIOOBE_FORMATTER" "Ljava/util/function/BiFunction;" A U U.heap ∧ vk_S 11 len11 byt11 adK adV A U U.heap ∧ (∀ i, i < 11 → vk_R RX5 (ix11.getD i 0) (tx11.getD i "") (adK i) U) ∧ va_Nw (.methodLinkNest RX0 78 yX6_isUnder RX6) U
theorem ecOK {tU : Nat} {adK adV : Nat → Nat} {A : Nat → Prop} : EnvOK A (EC tU adK adV A) := by
  refine ⟨fun U g mk x h => ?_, fun s U h hq hW => ?_⟩
  · obtain ⟨h1, h2, h3, h4, h5, h6, h7⟩ := h
    have al : U.vm.Alike (U.calling g mk x).vm := Vm.Alike.refl U.vm
    exact ⟨va_Z.moved al h1, va_T.moved al h2, va_Z.moved al h3, va_Zq.moved al h4, vk_S.moved al h5, fun i hi => vk_R.same (u := U) rfl (h6 i hi), va_Nw.same (u := U) rfl rfl h7⟩
  · obtain ⟨h1, h2, h3, h4, h5, h6, h7⟩ := h
    have al := hW.alike
    exact ⟨va_Z.moved al (h1.kept hq), va_T.moved al (h2.kept hq), va_Z.moved al (h3.kept hq), va_Zq.moved al (h4.kept hq), vk_S.moved al (h5.kept hq), fun i hi => vk_R.warm hW (h6 i hi), va_Nw.warmM hW h7⟩
theorem emOK {A : Nat → Prop} : EnvOK A (fun _ => True) := ⟨fun _ _ _ _ _ => trivial, fun _ _ _ _ _ => trivial⟩
abbrev MC (l : Launch) (D : va_G) (cc : Nat → ClassId) (a : Nat → Nat) (tU : Nat) (adK adV : Nat → Nat) (y : MethodName) (b : ByteArray) (mL : Nat) (rt : Option FieldType) (fr lo : Nat) (av : List Value) (u : Mem) (r : Option Value) (u2 : Mem) : Prop :=
  MM l D (tysC cc) (AC a) (EC tU adK adV (AC a)) y b mL rt fr lo av (wlC cc a u) r (wlC cc a u2)
section RC
variable {p : Program} {l : Launch} {e : Env} {R : Room} {s : State} {m : MethodId} {args : Array Value} {below : List Frame} {meth : Method} {c : Code} {H : Heap} {locs : List Loc} {cells slots : Nat} {Q : State → Prop}
variable {D : va_G} {cc : Nat → ClassId} {a : Nat → Nat} {u : Mem} {A : Nat → Prop} {bc : ByteArray} {nL : Nat} {rest : List Value} {own : String} {pc : Nat} {ls : Array Slot}
theorem cIald {y n : Nat} {i : Int32} (S : CallFix p m c bc nL s args gtbl own) (hK : va_K D vwCl (tysC cc) s) (hP : va_P D vwCl (wlC cc a u) H) (hy : kdC y = 8 ∧ y < 64) (hn : lenC y = n) (hin : vp_in i n) (hdg : decode bc pc = .ok (.iaload, 1)) (kk : W p l e R s m args below meth c H locs cells slots Q (F0 m (pc + 1) ls (.int (u.1 y i.toNatClampNeg) :: rest))) : W p l e R s m args below meth c H locs cells slots Q (F0 m pc ls (.int i :: .ref (a y) :: rest)) := by
  subst hn
  exact va_iald S.1 S.2.1 hK hP y 0 (c_IA hy) rfl hin hdg kk
theorem cIast {y n : Nat} {i x : Int32} (S : CallFix p m c bc nL s args gtbl own) (hK : va_K D vwCl (tysC cc) s) (hP : va_P D vwCl (wlC cc a u) H) (hD : va_D A (wlC cc a u)) (hS : va_S A s.heap H locs) (hy : kdC y = 8 ∧ y < 64) (hn : lenC y = n) (hin : vp_in i n) (hdg : decode bc pc = .ok (.iastore, 1)) (kk : ∀ (H1 : Heap) (locs1 : List Loc), va_P D vwCl (wlC cc a (sI u y i.toNatClampNeg x)) H1 → va_D A (wlC cc a (sI u y i.toNatClampNeg x)) → va_S A s.heap H1 locs1 → W p l e R s m args below meth c H1 locs1 cells slots Q (F0 m (pc + 1) ls rest)) : W p l e R s m args below meth c H locs cells slots Q (F0 m pc ls (.int x :: .int i :: .ref (a y) :: rest)) := by
  subst hn
  exact va_iast S.1 S.2.1 hK hP hD hS y 0 (c_IA hy) rfl hin hdg (fun H1 locs1 h1 h2 h3 => kk H1 locs1 (z_IA hy ▸ h1) (z_IA hy ▸ h2) h3)
theorem cLald {t : Nat} {i : Int32} (S : CallFix p m c bc nL s args gtbl own) (hK : va_K D vwCl (tysC cc) s) (hP : va_P D vwCl (wlC cc a u) H) (hy : t < 4) (hin : vp_in i 40) (hdg : decode bc pc = .ok (.laload, 1)) (kk : W p l e R s m args below meth c H locs cells slots Q (F0 m (pc + 1) ls (.long (u.2 (t + 23) i.toNatClampNeg) :: rest))) : W p l e R s m args below meth c H locs cells slots Q (F0 m pc ls (.int i :: .ref (a (t + 23)) :: rest)) :=
  va_lald S.1 S.2.1 hK hP (t + 23) 1 (c_LA hy) rfl hin hdg kk
theorem cLast {t : Nat} {i : Int32} {x : Int64} (S : CallFix p m c bc nL s args gtbl own) (hK : va_K D vwCl (tysC cc) s) (hP : va_P D vwCl (wlC cc a u) H) (hD : va_D A (wlC cc a u)) (hS : va_S A s.heap H locs) (hy : t < 4) (hin : vp_in i 40) (hdg : decode bc pc = .ok (.lastore, 1)) (kk : ∀ (H1 : Heap) (locs1 : List Loc), va_P D vwCl (wlC cc a (sL u (t + 23) i.toNatClampNeg x)) H1 → va_D A (wlC cc a (sL u (t + 23) i.toNatClampNeg x)) → va_S A s.heap H1 locs1 → W p l e R s m args below meth c H1 locs1 cells slots Q (F0 m (pc + 1) ls rest)) : W p l e R s m args below meth c H locs cells slots Q (F0 m pc ls (.long x :: .int i :: .ref (a (t + 23)) :: rest)) :=
  va_last S.1 S.2.1 hK hP hD hS (t + 23) 1 (c_LA hy) rfl hin hdg (fun H1 locs1 h1 h2 h3 => kk H1 locs1 (z_LA hy ▸ h1) (z_LA hy ▸ h2) h3)
theorem cPald {t : Nat} {i : Int32} (S : CallFix p m c bc nL s args gtbl own) (hK : va_K D vwCl (tysC cc) s) (hP : va_P D vwCl (wlC cc a u) H) (hy : 1 ≤ t ∧ t ≤ 3) (hin : vp_in i 12) (hdg : decode bc pc = .ok (.aaload, 1)) (kk : W p l e R s m args below meth c H locs cells slots Q (F0 m (pc + 1) ls (.ref (a (12 * t + 16 + i.toNatClampNeg)) :: rest))) : W p l e R s m args below meth c H locs cells slots Q (F0 m pc ls (.int i :: .ref (a t) :: rest)) :=
  va_aldq S.1 S.2.1 hK hP t 2 (c_PA hy) rfl hin hdg kk
theorem cSald {i : Int32} (S : CallFix p m c bc nL s args gtbl own) (hK : va_K D vwCl (tysC cc) s) (hP : va_P D vwCl (wlC cc a u) H) (hin : vp_in i 4) (hdg : decode bc pc = .ok (.aaload, 1)) (kk : W p l e R s m args below meth c H locs cells slots Q (F0 m (pc + 1) ls (.ref (a (i.toNatClampNeg + 19)) :: rest))) : W p l e R s m args below meth c H locs cells slots Q (F0 m pc ls (.int i :: .ref (a 18) :: rest)) :=
  va_aldq S.1 S.2.1 hK hP 18 3 c_SA rfl hin hdg kk
end RC
theorem fz_ok {v : Int32} (h : v = 0 ∨ v = 1) : fits .boolean (.int v) = true := by rcases h with rfl | rfl <;> rfl
