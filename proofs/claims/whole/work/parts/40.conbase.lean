/-! CONSTRUCTORS: worlds that grow. A world is 'rest ++ l': what was there, and what this constructor has in hand. -/
def NPre (D : va_G) (tys : List (ClassId × FieldType)) (z0 : Nat) (w : va_W) (U : State) : Prop := z0 ≤ U.heap.size ∧ va_P D vwCl w U.heap ∧ va_K D vwCl tys U ∧ va_D (fun z => z0 ≤ z) w ∧ va_AO RX1 U ∧ va_AO RX3 U
def NPost (D : va_G) (z0 : Nat) (B : va_W → Prop) : Array Value → State → Outcome → State → Prop := fun _ st oc t => (oc = .returned none ∧ ∃ w2, B w2 ∧ va_P D vwCl w2 t.heap ∧ va_D (fun z => z0 ≤ z) w2) ∧ va_F (fun z => z0 ≤ z) st t
def MN (l : Launch) (D : va_G) (tys : List (ClassId × FieldType)) (z0 : Nat) (y : MethodName) (b : ByteArray) (mL fr lo mc ms : Nat) (av : List Value) (w : va_W) (B : va_W → Prop) : Prop :=
  Met l y (wz y b mL none) { frames := fr, cells := mc, slots := ms, locals := lo } (va_Pc av (NPre D tys z0 w)) (NPost D z0 B) mc ms (fun z => z0 ≤ z)
def CI (own : String) (idx : Nat) (y : MethodName) (b : ByteArray) (mL n : Nat) : Prop :=
  (Cond.methodLink own idx y ∈ gtbl ∧ Cond.instanceMethod y ∈ gtbl ∧ Cond.initialized y.cls ∈ gtbl ∧ Cond.code y b mL none ∈ gtbl) ∧ y.name = "<init>" ∧ y.cls ≠ "java/lang/invoke/MethodHandle" ∧ y.cls ≠ "java/lang/invoke/VarHandle" ∧ (parseMethodDescriptor y.desc).map (fun d => d.parameters.length) = some n
theorem app_at {α : Type} {rest l : List α} (k : Nat) {x : α} (h : l[k]? = some x) : (rest ++ l)[rest.length + k]? = some x := by
  rw [List.getElem?_append_right (by omega), show rest.length + k - rest.length = k by omega]; exact h
theorem app_set {α : Type} {rest l : List α} (k : Nat) (x : α) : (rest ++ l).set (rest.length + k) x = rest ++ l.set k x := by
  rw [List.set_append_right _ _ (by omega), show rest.length + k - rest.length = k by omega]
theorem ka_same {D : va_G} {cl : List vw_C} {tys : List (ClassId × FieldType)} {s : State} {cA c0 : ClassId} {ty : FieldType} (hK : va_K D cl (tys ++ [(cA, ty)]) s) (j : Nat) (hj : tys[j]? = some (c0, ty)) : cA = c0 := by
  have h1 := (hK.2 tys.length (cA, ty) (by simp)).2
  have h2 := (hK.2 j (c0, ty) (by rw [List.getElem?_append_left (List.getElem?_eq_some_iff.mp hj).1]; exact hj)).2
  cases ty with
  | object C =>
    obtain ⟨_, _, _, _, _, e1⟩ := h1
    obtain ⟨_, _, _, _, _, e2⟩ := h2
    exact Option.some.inj (e1.symm.trans e2)
  | _ => exact Option.some.inj (h1.symm.trans h2)
section NR
variable {p : Program} {l : Launch} {e : Env} {R : Room} {s : State} {m : MethodId} {args : Array Value} {below : List Frame} {meth : Method} {c : Code} {H : Heap} {locs : List Loc} {cells slots : Nat} {Q : State → Prop}
variable {D : va_G} {tys : List (ClassId × FieldType)} {A : Nat → Prop} {y : MethodName} {b cc : ByteArray} {mL nL fr lo n index mc ms z0 : Nat} {As rs st0 : List Value} {rest l0 w : va_W} {own : String} {pc : Nat} {ls : Array Slot} {bb : Nat} {B : va_W → Prop}
theorem MN.ofW {av : List Value} (hy : plainName y.cls = true)
    (h : ∀ (p : Program) (e : Env) (s : State) (m : MethodId) (below : List Frame) (meth : Method) (c : Code), CallFix p m c b mL s av.toArray gtbl y.cls → meth.sig.returnType = none → meth.locks = false → meth.name = y.name → (∀ q, s.heap.size ≤ q → z0 ≤ q) → va_K D vwCl tys s → va_AO RX1 s → va_AO RX3 s → va_P D vwCl w s.heap → va_D (fun z => z0 ≤ z) w → va_S (fun z => z0 ≤ z) s.heap s.heap [] →
      W p l e { frames := fr, cells := mc, slots := ms, locals := lo } s m av.toArray below meth c s.heap [] 0 0 (MQ below (NPost D z0 B) av.toArray s mc ms (fun z => z0 ≤ z)) (entryFrame m av.toArray mL)) : MN l D tys z0 y b mL fr lo mc ms av w B := by
  refine Met.ofW (cc := b) (maxL := mL) (ret := none) hy rfl ?_
  intro p e s m args below meth c s₁ Bd hml hv
  obtain ⟨rfl, hz, hP, hK, hD, ha1, ha3⟩ := hv
  exact h p e s m below meth c ⟨Bd.exec, Bd.bytes, hml, findClass_of_methodNamed Bd.named, fun w hw => atoms_spec (ws := wz y b mL none) Bd.pre w (List.mem_cons_of_mem _ hw)⟩ Bd.returns Bd.notSynchronized (name_of_methodNamed Bd.named Bd.method).1 (fun q hq => Nat.le_trans hz hq) hK ha1 ha3 hP hD va_S.rf
theorem retN {w1 : va_W} (S : CallFix p m c cc nL s args gtbl own) (hr : meth.sig.returnType = none) (hlocks : meth.locks = false) (hB : B w1) (hP : va_P D vwCl w1 H) (hD : va_D (fun z => z0 ≤ z) w1) (hS : va_S (fun z => z0 ≤ z) s.heap H locs) (hdg : decode cc pc = .ok (.return_, 1)) : W p l e R s m args below meth c H locs cells slots (MQ below (NPost D z0 B) args s cells slots (fun z => z0 ≤ z)) (F0 m pc ls []) :=
  W.vret S.1 S.2.1 hr (fun t ht _ => ⟨⟨rfl, w1, hB, by rw [ht]; exact hP, hD⟩, hS.F ht⟩) hS.2.2 hdg hlocks
theorem MN.callI (hM : MN l D tys z0 y b mL fr lo mc ms (.ref bb :: As) w B) (hcv : CI own index y b mL n) (S : CallFix p m c cc nL s args gtbl own) (hz : ∀ q, s.heap.size ≤ q → z0 ≤ q) (hK : va_K D vwCl tys s) (ha1 : va_AO RX1 s) (ha3 : va_AO RX3 s) (hR : fr + 1 ≤ R.frames ∧ 8 + (mL + 11) + lo ≤ R.locals)
    (hn : As.length = n) (hst : st0 = As.reverse ++ .ref bb :: rs) (hsize : ls.size = nL) (hW : (rs.map fun v => v.category).sum ≤ 8) (hdg : decode cc pc = .ok (.invokespecial index, 3)) (hf : cells + mc ≤ R.cells ∧ slots + ms ≤ R.slots)
    (hP : va_P D vwCl w H) (hD : va_D (fun z => z0 ≤ z) w) (hS : va_S (fun z => z0 ≤ z) s.heap H locs)
    (kk : ∀ (w2 : va_W) (H1 : Heap) (locs1 : List Loc), B w2 → va_P D vwCl w2 H1 → va_D (fun z => z0 ≤ z) w2 → va_S (fun z => z0 ≤ z) s.heap H1 locs1 → W p l e R s m args below meth c H1 locs1 (cells + mc) (slots + ms) Q (F0 m (pc + 3) ls rs)) : W p l e R s m args below meth c H locs cells slots Q (F0 m pc ls st0) := by
  obtain ⟨⟨g1, g2, g3, g4⟩, g5, g6⟩ := hcv
  have hrun := va_runI (As := As) (rest := rs) (g := F0 m pc ls st0) (H := H) (locs := locs) (cells := cells) (slots := slots) (below := below) (meth := meth) (e := e) (R := R) S hM ⟨callB_of n S.2.2.2.2 (fun w hw => by
    rcases List.mem_cons.mp hw with rfl | hw
    · exact gtbl_good _ g4
    · exact gtbl_good _ hw) rfl rfl rfl (S.2.2.2.2 _ g3) (S.2.2.2.2 _ g1) g6 hR, g5, S.2.2.2.2 _ g2⟩
    ⟨fun x U g mk q => by
      obtain ⟨q0, q1, qP, qK, qD, qa, qb⟩ := q
      exact ⟨q0, q1, qP, va_K.moved (u := U) (U := U.calling g mk x) (Vm.Alike.refl U.vm) qK, qD, va_AO.moved (u := U) (U := U.calling g mk x) (Vm.Alike.refl U.vm) qa, va_AO.moved (u := U) (U := U.calling g mk x) (Vm.Alike.refl U.vm) qb⟩,
     fun U hU hW => ⟨rfl, by rw [hU]; exact hz _ hS.1, by rw [hU]; exact hP, va_K.moved hW.alike hK, hD, va_AO.moved hW.alike ha1, va_AO.moved hW.alike ha3⟩⟩ rfl hn hsize hst (lv_room hW) hdg hf
  intro T hT X
  obtain ⟨v, st₀, t, T', L, h0, X', hL, e1, e2, ⟨⟨hv, w2, hB, hp, hd⟩, hz1, hk⟩, st⟩ := hrun T hT X
  cases hv
  rw [h0] at hz1 hk
  obtain ⟨t2, a1, b1⟩ := kk w2 T'.heap (locs ++ L) hB (by rw [e1]; exact hp) hd
    ⟨Nat.le_trans hS.1 (by rw [e1]; exact hz1), fun q h1 h2 => by rw [e1, hk q (Nat.lt_of_lt_of_le h1 hS.1) h2]; exact hS.2.1 q h1 h2, fun q hq => by
      rcases List.mem_append.mp hq with h | h
      · exact hS.2.2 q h
      · exact hL q h⟩ T' rfl X'
  exact ⟨t2, st t2 a1, b1⟩
theorem nNewa {atype : ArrayType} {ty : FieldType} {c0 : ClassId} (S : CallFix p m c cc nL s args gtbl own) (harr : Cond.arrayClass (newarray.typeOf atype) ∈ gtbl) (hty : newarray.typeOf atype = ty) (j : Nat) (hj : tys[j]? = some (c0, ty)) (hK : va_K D vwCl tys s) (hP : va_P D vwCl (rest ++ l0) H) (hD : va_D A (rest ++ l0)) (hS : va_S A s.heap H locs) (hA : ∀ q, s.heap.size ≤ q → A q)
    {k : Int32} {N' : Nat} {a0 : vp_A} (ha : ∀ cA : ClassId, vp_cell cA a0 = arrV cA N' (fun _ => defaultValue ty)) (hn : ¬ k < 0) (hN : k.toNatClampNeg = N') (hbytes : N' * componentBytes ty ≤ 536870912) (hcells : cells + 1 ≤ R.cells) (hslots : slots + N' ≤ R.slots) (hdg : decode cc pc = .ok (.newarray atype, 2))
    (kk : ∀ (q : Nat) (H1 : Heap), va_P D vwCl (rest ++ (l0 ++ [(q, .inl (c0, a0))])) H1 → va_D A (rest ++ (l0 ++ [(q, .inl (c0, a0))])) → va_S A s.heap H1 locs →
      W p l e R s m args below meth c H1 locs (cells + 1) (slots + N') Q (F0 m (pc + 2) ls (.ref q :: rs))) : W p l e R s m args below meth c H locs cells slots Q (F0 m pc ls (.int k :: rs)) := by
  refine va_newa S.1 S.2.1 (S.2.2.2.2 _ harr) hty hK hP hD hS hA ha hn hN hbytes hcells hslots hdg (fun q cA H1 hK1 hP1 hD1 hS1 => ?_)
  have e := ka_same hK1 j hj
  subst e
  exact kk q H1 (by rw [← List.append_assoc]; exact hP1) (by rw [← List.append_assoc]; exact hD1) hS1
theorem nNewq {C : String} {c0 : ClassId} (S : CallFix p m c cc nL s args gtbl own) (hcl : Cond.classLink own index C ∈ gtbl) (hov : va_AO C s) (j : Nat) (hj : tys[j]? = some (c0, .object C)) (hK : va_K D vwCl tys s) (hP : va_P D vwCl (rest ++ l0) H) (hD : va_D A (rest ++ l0)) (hS : va_S A s.heap H locs) (hA : ∀ q, s.heap.size ≤ q → A q)
    {k : Int32} {N' : Nat} (hn : ¬ k < 0) (hN : k.toNatClampNeg = N') (hbytes : N' * 4 ≤ 536870912) (hcells : cells + 1 ≤ R.cells) (hslots : slots + N' ≤ R.slots) (hdg : decode cc pc = .ok (.anewarray index, 3))
    (kk : ∀ (q : Nat) (H1 : Heap), va_P D vwCl (rest ++ (l0 ++ [(q, .inl (c0, N', .inr (.inr (.inr (.inr (fun _ => none))))))])) H1 → va_D A (rest ++ (l0 ++ [(q, .inl (c0, N', .inr (.inr (.inr (.inr (fun _ => none))))))])) → va_S A s.heap H1 locs →
      W p l e R s m args below meth c H1 locs (cells + 1) (slots + N') Q (F0 m (pc + 3) ls (.ref q :: rs))) : W p l e R s m args below meth c H locs cells slots Q (F0 m pc ls (.int k :: rs)) := by
  refine va_newq S.1 S.2.1 S.2.2.2.1 (S.2.2.2.2 _ hcl) hov hK hP hD hS hA hn hN hbytes hcells hslots hdg (fun q cA H1 hK1 hP1 hD1 hS1 => ?_)
  have e := ka_same hK1 j hj
  subst e
  exact kk q H1 (by rw [← List.append_assoc]; exact hP1) (by rw [← List.append_assoc]; exact hD1) hS1
theorem nNew {C : String} {T : u_T} {N ci : Nat} (S : CallFix p m c cc nL s args gtbl own) (hin : ∀ z ∈ u_ws C T N, z ∈ gtbl) (ty : Nat → FieldType) (hty : ∀ k, k < N → parseFieldDescriptor (T k).2.2.1 = some (ty k)) (hcl : Cond.classLink own index C ∈ gtbl) (hinst : Cond.instantiable C N ∈ gtbl) (hini : Cond.initialized C ∈ gtbl)
    (hK : va_K D vwCl tys s) (hP : va_P D vwCl (rest ++ l0) H) (hD : va_D A (rest ++ l0)) (hS : va_S A s.heap H locs) (hA : ∀ q, s.heap.size ≤ q → A q) (hc : vwCl[ci]? = some (C, T, N)) {fs : List Value} (hfs : ∀ j, j < N → defaultValue (ty j) = vp_V fs j) (hcells : cells + 1 ≤ R.cells) (hslots : slots + N ≤ R.slots) (hdg : decode cc pc = .ok (.new index, 3))
    (kk : ∀ (q : Nat) (H1 : Heap), va_P D vwCl (rest ++ (l0 ++ [(q, .inr (ci, fs))])) H1 → va_D A (rest ++ (l0 ++ [(q, .inr (ci, fs))])) → va_S A s.heap H1 locs →
      W p l e R s m args below meth c H1 locs (cells + 1) (slots + N) Q (F0 m (pc + 3) ls (.ref q :: rs))) : W p l e R s m args below meth c H locs cells slots Q (F0 m pc ls rs) :=
  va_new S.1 S.2.1 S.2.2.2.2 hin ty hty S.2.2.2.1 (S.2.2.2.2 _ hcl) (S.2.2.2.2 _ hinst) (S.2.2.2.2 _ hini) hK hP hD hS hA hc hfs hcells hslots hdg (fun q H1 hP1 hD1 hS1 => kk q H1 (by rw [← List.append_assoc]; exact hP1) (by rw [← List.append_assoc]; exact hD1) hS1)
theorem nGet {ref C : String} {T : u_T} {N ci : Nat} {x : Nat} (S : CallFix p m c cc nL s args gtbl own) (hK : va_K D vwCl tys s) (hP : va_P D vwCl (rest ++ l0) H) (q0 : Nat) {fs : List Value} (he : l0[q0]? = some (x, .inr (ci, fs))) (hc : vwCl[ci]? = some (C, T, N)) (hin : ∀ z ∈ u_ws C T N, z ∈ gtbl) (k : Nat) (hk : k < N) (hlink : Cond.fieldLink own index ref (T k).2.1 (T k).2.2.1 ∈ gtbl) (hsame : (T k).1 = ref) {v : Value} (hv : fs[k]? = some v) (hdg : decode cc pc = .ok (.getfield index, 3))
    (kk : W p l e R s m args below meth c H locs cells slots Q (F0 m (pc + 3) ls (v :: rs))) : W p l e R s m args below meth c H locs cells slots Q (F0 m pc ls (.ref x :: rs)) :=
  va_get_w S hK hP (rest.length + q0) (app_at q0 he) hc hin k hk hlink hsame hv hdg kk
theorem nPut {ref C : String} {T : u_T} {N ci : Nat} {x : Nat} (S : CallFix p m c cc nL s args gtbl own) (hin : ∀ z ∈ u_ws C T N, z ∈ gtbl) (ty0 : Nat → FieldType) (hty : ∀ k, k < N → parseFieldDescriptor (T k).2.2.1 = some (ty0 k)) (hnm : ∀ a, a < N → ∀ b, b < N → a ≠ b → (T a).2.1 ≠ (T b).2.1) (hK : va_K D vwCl tys s) (hP : va_P D vwCl (rest ++ l0) H) (hD : va_D A (rest ++ l0)) (hS0 : va_S A s.heap H locs) (q0 : Nat) {fs : List Value} (he : l0[q0]? = some (x, .inr (ci, fs))) (hc : vwCl[ci]? = some (C, T, N)) (k : Nat) (hk : k < N) (hlink : Cond.fieldLink own index ref (T k).2.1 (T k).2.2.1 ∈ gtbl) (hsame : (T k).1 = ref) (hfin : (T k).2.2.2 = false) {ty : FieldType} {v : Value} (hd : parseFieldDescriptor (T k).2.2.1 = some ty) (hn : narrow ty v = v) (hfit : fits ty v = true) (hl : k < fs.length)
    (hdg : decode cc pc = .ok (.putfield index, 3)) (kk : ∀ (H1 : Heap) (locs1 : List Loc), va_P D vwCl (rest ++ l0.set q0 (x, .inr (ci, fs.set k v))) H1 → va_D A (rest ++ l0.set q0 (x, .inr (ci, fs.set k v))) → va_S A s.heap H1 locs1 → W p l e R s m args below meth c H1 locs1 cells slots Q (F0 m (pc + 3) ls rs)) : W p l e R s m args below meth c H locs cells slots Q (F0 m pc ls (v :: .ref x :: rs)) :=
  va_put_w S hin ty0 hty hnm hK hP hD hS0 (rest.length + q0) (app_at q0 he) hc k hk hlink hsame hfin hd hn hfit hl (app_set _ _) hdg kk
theorem nPutF {C : String} {T : u_T} {N ci : Nat} {x : Nat} (hname : meth.name = "<init>") (S : CallFix p m c cc nL s args gtbl own) (hCo : C = own) (hin : ∀ z ∈ u_ws C T N, z ∈ gtbl) (ty0 : Nat → FieldType) (hty : ∀ k, k < N → parseFieldDescriptor (T k).2.2.1 = some (ty0 k)) (hnm : ∀ a, a < N → ∀ b, b < N → a ≠ b → (T a).2.1 ≠ (T b).2.1) (hK : va_K D vwCl tys s) (hP : va_P D vwCl (rest ++ l0) H) (hD : va_D A (rest ++ l0)) (hS0 : va_S A s.heap H locs) (q0 : Nat) {fs : List Value} (he : l0[q0]? = some (x, .inr (ci, fs))) (hc : vwCl[ci]? = some (C, T, N)) (k : Nat) (hk : k < N) (hlink : Cond.fieldLink own index C (T k).2.1 (T k).2.2.1 ∈ gtbl) (hsame : (T k).1 = C) (hfin : (T k).2.2.2 = true) {ty : FieldType} {v : Value} (hd : parseFieldDescriptor (T k).2.2.1 = some ty) (hn : narrow ty v = v) (hfit : fits ty v = true) (hl : k < fs.length)
    (hdg : decode cc pc = .ok (.putfield index, 3)) (kk : ∀ (H1 : Heap) (locs1 : List Loc), va_P D vwCl (rest ++ l0.set q0 (x, .inr (ci, fs.set k v))) H1 → va_D A (rest ++ l0.set q0 (x, .inr (ci, fs.set k v))) → va_S A s.heap H1 locs1 → W p l e R s m args below meth c H1 locs1 cells slots Q (F0 m (pc + 3) ls rs)) : W p l e R s m args below meth c H locs cells slots Q (F0 m pc ls (v :: .ref x :: rs)) := by
  subst hCo
  refine va_putF S.1 S.2.1 S.2.2.2.2 hin ty0 hty hnm S.2.2.2.1 hK hP hD hS0 (rest.length + q0) (app_at q0 he) hc k hk (S.2.2.2.2 _ hlink) (fun z h9 => by rw [hsame] at h9; exact h9) hfin hname hsame hd hn hfit hl hdg (fun H1 locs1 h1 h2 h3 => kk H1 locs1 (by rw [← app_set]; exact h1) (by rw [← app_set]; exact h2) h3)
theorem nAst {C : String} {T : u_T} {N ci : Nat} {x v n0 : Nat} {c0 : ClassId} {f : Nat → Option Nat} {vs : List Value} {i : Int32} (S : CallFix p m c cc nL s args gtbl own) (hK : va_K D vwCl tys s) (hP : va_P D vwCl (rest ++ l0) H) (hD : va_D A (rest ++ l0)) (hS : va_S A s.heap H locs) (q0 qk t0 : Nat) (ha : l0[q0]? = some (x, .inl (c0, n0, .inr (.inr (.inr (.inr f)))))) (ht : tys[t0]? = some (c0, .object C)) (hv : l0[qk]? = some (v, .inr (ci, vs))) (hc : vwCl[ci]? = some (C, T, N)) (hin : vp_in i n0) (hdg : decode cc pc = .ok (.aastore, 1))
    (kk : ∀ (H1 : Heap) (locs1 : List Loc), va_P D vwCl (rest ++ l0.set q0 (x, .inl (c0, n0, .inr (.inr (.inr (.inr (va_up f i.toNatClampNeg (some v)))))))) H1 → va_D A (rest ++ l0.set q0 (x, .inl (c0, n0, .inr (.inr (.inr (.inr (va_up f i.toNatClampNeg (some v)))))))) → va_S A s.heap H1 locs1 → W p l e R s m args below meth c H1 locs1 cells slots Q (F0 m (pc + 1) ls rs)) : W p l e R s m args below meth c H locs cells slots Q (F0 m pc ls (.ref v :: .int i :: .ref x :: rs)) :=
  va_astq (r := (C, T, N)) S.1 S.2.1 hK hP hD hS (rest.length + q0) t0 (rest.length + qk) ci (app_at q0 ha) ht (app_at qk hv) hc hin hdg (fun H1 locs1 h1 h2 h3 => kk H1 locs1 (by rw [← app_set]; exact h1) (by rw [← app_set]; exact h2) h3)
theorem nIast {x n0 : Nat} {c0 : ClassId} {f : Nat → Int32} {i v : Int32} (S : CallFix p m c cc nL s args gtbl own) (hK : va_K D vwCl tys s) (hP : va_P D vwCl (rest ++ l0) H) (hD : va_D A (rest ++ l0)) (hS : va_S A s.heap H locs) (q0 t0 : Nat) (ha : l0[q0]? = some (x, .inl (c0, n0, .inl f))) (ht : tys[t0]? = some (c0, .int)) (hin : vp_in i n0) (hdg : decode cc pc = .ok (.iastore, 1))
    (kk : ∀ (H1 : Heap) (locs1 : List Loc), va_P D vwCl (rest ++ l0.set q0 (x, .inl (c0, n0, .inl (upd f i.toNatClampNeg v)))) H1 → va_D A (rest ++ l0.set q0 (x, .inl (c0, n0, .inl (upd f i.toNatClampNeg v)))) → va_S A s.heap H1 locs1 → W p l e R s m args below meth c H1 locs1 cells slots Q (F0 m (pc + 1) ls rs)) : W p l e R s m args below meth c H locs cells slots Q (F0 m pc ls (.int v :: .int i :: .ref x :: rs)) :=
  va_iast S.1 S.2.1 hK hP hD hS (rest.length + q0) t0 (app_at q0 ha) ht hin hdg (fun H1 locs1 h1 h2 h3 => kk H1 locs1 (by rw [← app_set]; exact h1) (by rw [← app_set]; exact h2) h3)
end NR
/-- a world whose row of references holds the same below its length -/
theorem va_at_q {D : va_G} {cl : List vw_C} {x n : Nat} {c0 : ClassId} {f g : Nat → Option Nat} {H : Heap} (h : va_at D cl (x, .inl (c0, n, .inr (.inr (.inr (.inr f))))) H) (e : ∀ k, k < n → f k = g k) : va_at D cl (x, .inl (c0, n, .inr (.inr (.inr (.inr g))))) H := by
  have h1 : H[x]? = some (vp_cell c0 (n, .inr (.inr (.inr (.inr f))))) := h
  show H[x]? = some (vp_cell c0 (n, .inr (.inr (.inr (.inr g)))))
  rw [h1, vp_cell_q, vp_cell_q]
  congr 1
  unfold arrV
  congr 1
  apply Array.ext
  · simp
  · intro i h1 h2
    simp at h1
    simp [e i h1]
def pr0 : va_E := .inr (1, [.int 0, .int 0, .int 0, .int 0, .long 0])
/-- what an Archive is when it is made: itself, its row, its prints -/
def arW (cP : ClassId) (h : Nat) (q : Nat → Nat) : va_W := (h, .inr (0, [.ref (q 12), .int 0, .int 20])) :: (q 12, .inl (cP, 12, .inr (.inr (.inr (.inr (fun k => some (q k))))))) :: (List.range 12).map (fun k => (q k, pr0))
