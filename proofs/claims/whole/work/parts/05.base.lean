/-! MEMORY AND CONTRACTS: a world is a list of cells that a memory fills; a method's contract says which memory comes of which. -/
abbrev Mem : Type := (Nat → Nat → Int32) × (Nat → Nat → Int64)
def sI (u : Mem) (i k : Nat) (v : Int32) : Mem := (fun x y => if x = i ∧ y = k then v else u.1 x y, u.2)
def sL (u : Mem) (i k : Nat) (v : Int64) : Mem := (u.1, fun x y => if x = i ∧ y = k then v else u.2 x y)
def bdI {β : Type} (o : Option (Int32 × Mem)) (f : Int32 → Mem → Option β) : Option β := match o with
  | none => none
  | some q => f q.1 q.2
def bdL {β : Type} (o : Option (Int64 × Mem)) (f : Int64 → Mem → Option β) : Option β := match o with
  | none => none
  | some q => f q.1 q.2
def bdV {β : Type} (o : Option Mem) (f : Mem → Option β) : Option β := match o with
  | none => none
  | some q => f q
def gd {β : Type} (i : Int32) (n : Nat) (x : Option β) : Option β := if i < 0 ∨ n ≤ i.toNatClampNeg then none else x
def gz {β : Type} (v : Int32) (x : Option β) : Option β := if v = 0 ∨ v = 1 then x else none
theorem bdI_some {β : Type} {o : Option (Int32 × Mem)} {f : Int32 → Mem → Option β} {z : β} (h : bdI o f = some z) : ∃ r u, o = some (r, u) ∧ f r u = some z := by
  cases o with
  | none => cases h
  | some q => exact ⟨q.1, q.2, rfl, h⟩
theorem bdL_some {β : Type} {o : Option (Int64 × Mem)} {f : Int64 → Mem → Option β} {z : β} (h : bdL o f = some z) : ∃ r u, o = some (r, u) ∧ f r u = some z := by
  cases o with
  | none => cases h
  | some q => exact ⟨q.1, q.2, rfl, h⟩
theorem bdV_some {β : Type} {o : Option Mem} {f : Mem → Option β} {z : β} (h : bdV o f = some z) : ∃ u, o = some u ∧ f u = some z := by
  cases o with
  | none => cases h
  | some q => exact ⟨q, rfl, h⟩
theorem gd_some {β : Type} {i : Int32} {n : Nat} {x : Option β} {z : β} (h : gd i n x = some z) : vp_in i n ∧ x = some z := by
  unfold gd at h
  by_cases c : i < 0 ∨ n ≤ i.toNatClampNeg
  · rw [if_pos c] at h; cases h
  · rw [if_neg c] at h; exact ⟨c, h⟩
theorem gz_some {β : Type} {v : Int32} {x : Option β} {z : β} (h : gz v x = some z) : (v = 0 ∨ v = 1) ∧ x = some z := by
  unfold gz at h
  by_cases c : v = 0 ∨ v = 1
  · rw [if_pos c] at h; exact ⟨c, h⟩
  · rw [if_neg c] at h; cases h
theorem ite_t {α : Type} {q : Prop} [Decidable q] {x y z : α} (h : (if q then x else y) = z) (hc : q) : x = z := by rw [if_pos hc] at h; exact h
theorem ite_f {α : Type} {q : Prop} [Decidable q] {x y z : α} (h : (if q then x else y) = z) (hc : ¬ q) : y = z := by rw [if_neg hc] at h; exact h
theorem nz_ok {v : Int32} (h : v = 0 ∨ v = 1) : narrow .boolean (.int v) = .int v := by rcases h with rfl | rfl <;> rfl
theorem nz_nar {v : Int32} (h : v = 0 ∨ v = 1) : vp_nar .boolean v = v := by rcases h with rfl | rfl <;> rfl
theorem vp_lt {i : Int32} {n : Nat} (h : vp_in i n) : i.toNatClampNeg < n := Nat.not_le.mp fun q => h (Or.inr q)
abbrev wz (y : MethodName) (b : ByteArray) (mL : Nat) (rt : Option FieldType) : List Cond := Cond.code y b mL rt :: gtbl
/-- what goes on in the state beside the world, and stays -/
def EnvOK (A : Nat → Prop) (E : State → Prop) : Prop := (∀ (U : State) (g : JFrame) (mk : MethodId) (x : Array Value), E U → E (U.calling g mk x)) ∧ ∀ (s U : State), E s → (∀ q : Nat, q < s.heap.size → ¬ A q → U.heap[q]? = s.heap[q]?) → s.WarmedH U.vm → E U
def MPre (D : va_G) (tys : List (ClassId × FieldType)) (A : Nat → Prop) (E : State → Prop) (w : va_W) (U : State) : Prop := va_P D vwCl w U.heap ∧ va_K D vwCl tys U ∧ va_D A w ∧ E U
def MPost (D : va_G) (A : Nat → Prop) (w : va_W) (r : Option Value) : Array Value → State → Outcome → State → Prop := fun _ st oc t => (oc = .returned r ∧ va_P D vwCl w t.heap ∧ va_D A w) ∧ va_F A st t
/-- THE CONTRACT: with these arguments, from the world w the method answers r and leaves the world w2 -/
def MM (l : Launch) (D : va_G) (tys : List (ClassId × FieldType)) (A : Nat → Prop) (E : State → Prop) (y : MethodName) (b : ByteArray) (mL : Nat) (rt : Option FieldType) (fr lo : Nat) (av : List Value) (w : va_W) (r : Option Value) (w2 : va_W) : Prop :=
  Met l y (wz y b mL rt) { frames := fr, cells := 0, slots := 0, locals := lo } (va_Pc av (MPre D tys A E w)) (MPost D A w2 r) 0 0 A
/-- a callee's words: a virtual one, a static one -/
def CV (own : String) (idx : Nat) (y : MethodName) (b : ByteArray) (mL : Nat) (rt : Option FieldType) (n : Nat) : Prop :=
  (Cond.methodLink own idx y ∈ gtbl ∧ Cond.instanceMethod y ∈ gtbl ∧ Cond.selects y.cls y y ∈ gtbl ∧ Cond.initialized y.cls ∈ gtbl ∧ Cond.code y b mL rt ∈ gtbl) ∧ y.cls ≠ "java/lang/invoke/MethodHandle" ∧ y.cls ≠ "java/lang/invoke/VarHandle" ∧ (parseMethodDescriptor y.desc).map (fun d => d.parameters.length) = some n
def CT (own : String) (idx : Nat) (y : MethodName) (b : ByteArray) (mL : Nat) (rt : Option FieldType) (n : Nat) : Prop :=
  (Cond.methodLink own idx y ∈ gtbl ∧ Cond.static y ∈ gtbl ∧ Cond.initialized y.cls ∈ gtbl ∧ Cond.code y b mL rt ∈ gtbl) ∧ y.cls ≠ "java/lang/invoke/MethodHandle" ∧ y.cls ≠ "java/lang/invoke/VarHandle" ∧ (parseMethodDescriptor y.desc).map (fun d => d.parameters.length) = some n
section MMrows
variable {p : Program} {l : Launch} {e : Env} {R : Room} {s : State} {m : MethodId} {args : Array Value} {below : List Frame} {meth : Method} {c : Code} {H : Heap} {locs : List Loc} {cells slots : Nat} {Q : State → Prop}
variable {D : va_G} {tys : List (ClassId × FieldType)} {A : Nat → Prop} {E : State → Prop} {y : MethodName} {b cc : ByteArray} {mL nL fr lo n index : Nat} {rt : Option FieldType} {As rest st0 : List Value} {w w2 : va_W} {r : Option Value} {own : String} {pc : Nat} {ls : Array Slot} {bb : Nat}
theorem MPre.blind (hE : EnvOK A E) (av : List Value) : FrameBlind (va_Pc av (MPre D tys A E w)) := by
  intro x U g mk q
  obtain ⟨q0, qP, qK, qD, qE⟩ := q
  exact ⟨q0, qP, va_K.moved (u := U) (U := U.calling g mk x) (Vm.Alike.refl U.vm) qK, qD, hE.1 U g mk x qE⟩
theorem MPre.at (hE : EnvOK A E) (hP : va_P D vwCl w H) (hD : va_D A w) (hS : va_S A s.heap H locs) (hK : va_K D vwCl tys s) (hEs : E s) (av : List Value) : ∀ U : State, U.heap = H → s.WarmedH U.vm → va_Pc av (MPre D tys A E w) av.toArray U := by
  intro U hU hW
  exact ⟨rfl, by rw [hU]; exact hP, va_K.moved hW.alike hK, hD, hE.2 s U hEs (fun q h1 h2 => by rw [hU]; exact hS.2.1 q h1 h2) hW⟩
theorem MM.run {args2 : Array Value} (hr : va_Run p l e R s m args below meth c H locs cells slots 0 0 (F0 m pc ls st0) rest (MPost D A w2 r args2) A) (hS : va_S A s.heap H locs)
    (kk : ∀ (H1 : Heap) (locs1 : List Loc), va_P D vwCl w2 H1 → va_D A w2 → va_S A s.heap H1 locs1 → W p l e R s m args below meth c H1 locs1 cells slots Q (F0 m (pc + 3) ls (r.toList ++ rest))) : W p l e R s m args below meth c H locs cells slots Q (F0 m pc ls st0) := by
  intro T hT X
  obtain ⟨v, st₀, t, T', L, h0, X', hL, e1, e2, ⟨⟨hv, hp, hd⟩, hz, hk⟩, st⟩ := hr T hT X
  cases hv
  rw [h0] at hz hk
  obtain ⟨t2, a1, b1⟩ := kk T'.heap (locs ++ L) (by rw [e1]; exact hp) hd
    ⟨Nat.le_trans hS.1 (by rw [e1]; exact hz), fun q h1 h2 => by rw [e1, hk q (Nat.lt_of_lt_of_le h1 hS.1) h2]; exact hS.2.1 q h1 h2, fun q hq => by
      rcases List.mem_append.mp hq with h | h
      · exact hS.2.2 q h
      · exact hL q h⟩ T' rfl X'
  exact ⟨t2, st t2 a1, b1⟩
theorem callB_mm (hts : ∀ w ∈ gtbl, w.before args s = true) (hR : fr + 1 ≤ R.frames ∧ 8 + (mL + 11) + lo ≤ R.locals) (h1 : Cond.methodLink own index y ∈ gtbl) (h2 : Cond.initialized y.cls ∈ gtbl) (h3 : Cond.code y b mL rt ∈ gtbl) (h4 : y.cls ≠ "java/lang/invoke/MethodHandle" ∧ y.cls ≠ "java/lang/invoke/VarHandle" ∧ (parseMethodDescriptor y.desc).map (fun d => d.parameters.length) = some n) :
    CallB R s args own index y b mL rt (wz y b mL rt) { frames := fr, cells := 0, slots := 0, locals := lo } 0 0 n :=
  callB_of n hts (fun w hw => by
    rcases List.mem_cons.mp hw with rfl | hw
    · exact gtbl_good _ h3
    · exact gtbl_good _ hw) rfl rfl rfl (hts _ h2) (hts _ h1) h4 hR
/-- a call of an object's method -/
theorem MM.callV (hM : MM l D tys A E y b mL rt fr lo (.ref bb :: As) w r w2) (hcv : CV own index y b mL rt n) (S : CallFix p m c cc nL s args gtbl own) (hE : EnvOK A E) (hEs : E s) (hK : va_K D vwCl tys s) (hR : fr + 1 ≤ R.frames ∧ 8 + (mL + 11) + lo ≤ R.locals)
    (hrecv : ∃ cell : Cell, H[bb]? = some cell ∧ cell.vm.isStatics = false ∧ s.vm.findClass y.cls = some cell.cls) (hn : As.length = n) (hst : st0 = As.reverse ++ .ref bb :: rest) (hsize : ls.size = nL) (hW : (rest.map fun v => v.category).sum ≤ 8) (hdg : decode cc pc = .ok (.invokevirtual index, 3)) (hf : cells ≤ R.cells ∧ slots ≤ R.slots)
    (hP : va_P D vwCl w H) (hD : va_D A w) (hS : va_S A s.heap H locs)
    (kk : ∀ (H1 : Heap) (locs1 : List Loc), va_P D vwCl w2 H1 → va_D A w2 → va_S A s.heap H1 locs1 → W p l e R s m args below meth c H1 locs1 cells slots Q (F0 m (pc + 3) ls (r.toList ++ rest))) : W p l e R s m args below meth c H locs cells slots Q (F0 m pc ls st0) := by
  obtain ⟨⟨g1, g2, g3, g4, g5⟩, g6⟩ := hcv
  exact MM.run (va_runV (As := As) (rest := rest) S hM ⟨callB_mm S.2.2.2.2 hR g1 g4 g5 g6, S.2.2.2.2 _ g2, S.2.2.2.2 _ g3⟩ ⟨MPre.blind hE _, hrecv, MPre.at hE hP hD hS hK hEs _⟩ rfl hn hsize hst (lv_room hW) hdg hf) hS kk
/-- a call of a static method -/
theorem MM.callS (hM : MM l D tys A E y b mL rt fr lo As w r w2) (hcv : CT own index y b mL rt n) (S : CallFix p m c cc nL s args gtbl own) (hE : EnvOK A E) (hEs : E s) (hK : va_K D vwCl tys s) (hR : fr + 1 ≤ R.frames ∧ 8 + (mL + 11) + lo ≤ R.locals)
    (hn : As.length = n) (hst : st0 = As.reverse ++ rest) (hsize : ls.size = nL) (hW : (rest.map fun v => v.category).sum ≤ 8) (hdg : decode cc pc = .ok (.invokestatic index, 3)) (hf : cells ≤ R.cells ∧ slots ≤ R.slots)
    (hP : va_P D vwCl w H) (hD : va_D A w) (hS : va_S A s.heap H locs)
    (kk : ∀ (H1 : Heap) (locs1 : List Loc), va_P D vwCl w2 H1 → va_D A w2 → va_S A s.heap H1 locs1 → W p l e R s m args below meth c H1 locs1 cells slots Q (F0 m (pc + 3) ls (r.toList ++ rest))) : W p l e R s m args below meth c H locs cells slots Q (F0 m pc ls st0) := by
  obtain ⟨⟨g1, g2, g3, g4⟩, g6⟩ := hcv
  exact MM.run (va_runS (As := As) (rest := rest) S hM ⟨callB_mm S.2.2.2.2 hR g1 g3 g4 g6, S.2.2.2.2 _ g2⟩ ⟨MPre.blind hE _, MPre.at hE hP hD hS hK hEs _⟩ rfl hn hsize hst (lv_room hW) hdg hf) hS kk
/-- the entry of a method: its contract out of the walk of its body -/
theorem MM.ofW {av : List Value} (hy : plainName y.cls = true)
    (h : ∀ (p : Program) (e : Env) (s : State) (m : MethodId) (below : List Frame) (meth : Method) (c : Code), CallFix p m c b mL s av.toArray gtbl y.cls → meth.sig.returnType = rt → meth.locks = false → va_K D vwCl tys s → E s → va_P D vwCl w s.heap → va_D A w → va_S A s.heap s.heap [] →
      W p l e { frames := fr, cells := 0, slots := 0, locals := lo } s m av.toArray below meth c s.heap [] 0 0 (MQ below (MPost D A w2 r) av.toArray s 0 0 A) (entryFrame m av.toArray mL)) : MM l D tys A E y b mL rt fr lo av w r w2 := by
  refine Met.ofW (cc := b) (maxL := mL) (ret := rt) hy rfl ?_
  intro p e s m args below meth c s₁ B hml hv
  obtain ⟨rfl, hP, hK, hD, hEs⟩ := hv
  exact h p e s m below meth c ⟨B.exec, B.bytes, hml, findClass_of_methodNamed B.named, fun w hw => atoms_spec (ws := wz y b mL rt) B.pre w (List.mem_cons_of_mem _ hw)⟩ B.returns B.notSynchronized hK hEs hP hD va_S.rf
theorem retI {v : Int32} {w1 : va_W} (S : CallFix p m c cc nL s args gtbl own) (hr : meth.sig.returnType = some .int) (hlocks : meth.locks = false) (hP : va_P D vwCl w1 H) (hD : va_D A w1) (hS : va_S A s.heap H locs) (hdg : decode cc pc = .ok (.ireturn, 1)) : W p l e R s m args below meth c H locs cells slots (MQ below (MPost D A w1 (some (.int v))) args s cells slots A) (F0 m pc ls [.int v]) :=
  W.iret S.1 S.2.1 hr (fun t ht _ => ⟨⟨rfl, by rw [ht]; exact hP, hD⟩, hS.F ht⟩) hS.2.2 hdg hlocks
theorem retZ {v : Int32} {w1 : va_W} (S : CallFix p m c cc nL s args gtbl own) (hr : meth.sig.returnType = some .boolean) (hlocks : meth.locks = false) (hP : va_P D vwCl w1 H) (hD : va_D A w1) (hS : va_S A s.heap H locs) (hz : v = 0 ∨ v = 1) (hdg : decode cc pc = .ok (.ireturn, 1)) : W p l e R s m args below meth c H locs cells slots (MQ below (MPost D A w1 (some (.int v))) args s cells slots A) (F0 m pc ls [.int v]) :=
  W.zret S.1 S.2.1 hr (nz_ok hz) (fun t ht _ => ⟨⟨rfl, by rw [ht]; exact hP, hD⟩, hS.F ht⟩) hS.2.2 hdg hlocks
theorem retL {v : Int64} {w1 : va_W} (S : CallFix p m c cc nL s args gtbl own) (hr : meth.sig.returnType = some .long) (hlocks : meth.locks = false) (hP : va_P D vwCl w1 H) (hD : va_D A w1) (hS : va_S A s.heap H locs) (hdg : decode cc pc = .ok (.lreturn, 1)) : W p l e R s m args below meth c H locs cells slots (MQ below (MPost D A w1 (some (.long v))) args s cells slots A) (F0 m pc ls [.long v]) :=
  W.lret S.1 S.2.1 hr (fun t ht _ => ⟨⟨rfl, by rw [ht]; exact hP, hD⟩, hS.F ht⟩) hS.2.2 hdg hlocks
theorem retV {w1 : va_W} (S : CallFix p m c cc nL s args gtbl own) (hr : meth.sig.returnType = none) (hlocks : meth.locks = false) (hP : va_P D vwCl w1 H) (hD : va_D A w1) (hS : va_S A s.heap H locs) (hdg : decode cc pc = .ok (.return_, 1)) : W p l e R s m args below meth c H locs cells slots (MQ below (MPost D A w1 none) args s cells slots A) (F0 m pc ls []) :=
  W.vret S.1 S.2.1 hr (fun t ht _ => ⟨⟨rfl, by rw [ht]; exact hP, hD⟩, hS.F ht⟩) hS.2.2 hdg hlocks
theorem lv_inc1 {cc : ByteArray} (hexec : p.tables.exec = Jvm.exec) (hb : c.code = cc) {i nL k : Nat} {x : Int32} {lv lv' : List (Nat × Value)} (hdg : decode cc pc = .ok (.iinc i 1, 3)) (h : lv_has ls nL lv) (hk : lv[k]? = some (i, .int x)) (hn : i < nL) (hl : (i, Value.int (x + 1)) :: lv.filter (fun q => !(q.1 == i) && !(q.1 + 1 == i && q.2.category == 2)) = lv')
    (kk : ∀ ls' : Array Slot, lv_has ls' nL lv' → W p l e R s m args below meth c H locs cells slots Q (F0 m (pc + 3) ls' rest)) : W p l e R s m args below meth c H locs cells slots Q (F0 m pc ls rest) :=
  lv_iinc (v := x + 1) hexec hb hdg h hk rfl hn hl kk
theorem lv_incm {cc : ByteArray} (hexec : p.tables.exec = Jvm.exec) (hb : c.code = cc) {i nL k : Nat} {x : Int32} {lv lv' : List (Nat × Value)} (hdg : decode cc pc = .ok (.iinc i (-1), 3)) (h : lv_has ls nL lv) (hk : lv[k]? = some (i, .int x)) (hn : i < nL) (hl : (i, Value.int (x - 1)) :: lv.filter (fun q => !(q.1 == i) && !(q.1 + 1 == i && q.2.category == 2)) = lv')
    (kk : ∀ ls' : Array Slot, lv_has ls' nL lv' → W p l e R s m args below meth c H locs cells slots Q (F0 m (pc + 3) ls' rest)) : W p l e R s m args below meth c H locs cells slots Q (F0 m pc ls rest) :=
  lv_iinc (v := x - 1) hexec hb hdg h hk (by rw [Int32.sub_eq_add_neg]; rfl) hn hl kk
theorem va_put_w {cc : ByteArray} {own ref C : String} {T : u_T} {N ci : Nat} {a : Nat} {w w2 : va_W} (S : CallFix p m c cc nL s args gtbl own) (hin : ∀ x ∈ u_ws C T N, x ∈ gtbl) (ty0 : Nat → FieldType) (hty : ∀ k, k < N → parseFieldDescriptor (T k).2.2.1 = some (ty0 k)) (hnm : ∀ a, a < N → ∀ b, b < N → a ≠ b → (T a).2.1 ≠ (T b).2.1) (hK : va_K D vwCl tys s) (hP : va_P D vwCl w H) (hD : va_D A w) (hS0 : va_S A s.heap H locs) (q0 : Nat) {fs : List Value} (he : w[q0]? = some (a, .inr (ci, fs))) (hc : vwCl[ci]? = some (C, T, N)) (k : Nat) (hk : k < N) (hlink : Cond.fieldLink own index ref (T k).2.1 (T k).2.2.1 ∈ gtbl) (hsame : (T k).1 = ref) (hfin : (T k).2.2.2 = false) {ty : FieldType} {v : Value} (hd : parseFieldDescriptor (T k).2.2.1 = some ty) (hn : narrow ty v = v) (hfit : fits ty v = true) (hl : k < fs.length)
    (hset : w.set q0 (a, .inr (ci, fs.set k v)) = w2) (hdg : decode cc pc = .ok (.putfield index, 3)) (kk : ∀ (H1 : Heap) (locs1 : List Loc), va_P D vwCl w2 H1 → va_D A w2 → va_S A s.heap H1 locs1 → W p l e R s m args below meth c H1 locs1 cells slots Q (F0 m (pc + 3) ls rest)) : W p l e R s m args below meth c H locs cells slots Q (F0 m pc ls (v :: .ref a :: rest)) := by
  subst hset
  subst hsame
  exact va_put S.1 S.2.1 S.2.2.2.2 hin ty0 hty hnm S.2.2.2.1 hK hP hD hS0 q0 he hc k hk (S.2.2.2.2 _ hlink) (fun _ h9 => h9) hfin hd hn hfit hl hdg kk
end MMrows
