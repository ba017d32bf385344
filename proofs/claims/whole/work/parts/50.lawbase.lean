/-! THE CLAIM OUT OF ONE WALK OF THE LAW'S BODY. Your part is whole_start (and what it stands on); all else here is the same for every law, but numbers. -/
def R_law : String := "SealPrintsLaw"
def lw_P (b : Addr) (xs : List Int32) (args : Array Value) (s : State) : Prop := args = #[.ref b] ∧ s.IntsAt b xs ∧ xs.length ≤ 3072 ∧ (Jvm.Cond.and given_1 narrow_1).before args s = true
def lw_Q (_ : Array Value) (s : State) (o : Outcome) (t : State) : Prop := o = .returned (some (.int 1)) ∧ Framed s o t [] 600000 7302250
def lw_Z (below : List Frame) (a : Array Value) (s : State) : State → Prop := fun t => ∃ o, t.status = .running ∧ Ended t below o ∧ lw_Q a s o t
/-- the law's own end, with 1 on the stack, nothing written that was there before, its room as the claim has it -/
theorem lw_ret {p : Program} {l : Launch} {e : Env} {s : State} {m : MethodId} {below : List Frame} {meth : Method} {c : Code} {b : Nat} (hx : p.tables.exec = Jvm.exec) (hb : c.code = code) (hr : meth.sig.returnType = ret) (hlocks : meth.locks = false) {pc : Nat} {H : Heap} {ls : Array Slot} (hdg : decode code pc = .ok (.ireturn, 1)) : W p l e room_1 s m #[Value.ref b] below meth c H [] 600000 7302250 (lw_Z below #[Value.ref b] s) (F0 m pc ls [.int 1]) := by
  intro T hT X
  obtain ⟨fs, hret, hrun, hended, hW, hframe⟩ := X.leave (v := some (.int 1)) (hlocks := hlocks) (fun h => by rw [hr] at h; cases h)
  have hmeth' : T.vm.method? m = some meth := X.method'
  refine ⟨T.setFrames fs, ?_, .returned (some (.int 1)), hrun, hended, rfl, ⟨_, rfl⟩, hW, hframe⟩
  jvm_step X.here [X.here.top, hx, hb, hdg, hmeth', hr, ret, narrow_b1]
  (try refine ⟨rfl, ?_⟩); (try refine ⟨rfl, ?_⟩)
  first | (intro acts; rw [hret _ acts rfl rfl rfl]) | rw [hret _ _ rfl rfl rfl]
  exact Steps.refl _
/-- what holds at the law's entry: the machine, the code, the tables' words (any of lw_tbl by 'hts w (by decide +kernel)'), the script of L ints xs at the cell b, what the Statement gives of the start (any of its parts by flat_of_before) -/
def lw_At (p : Program) (s : State) (m : MethodId) (meth : Method) (c : Code) (b L : Nat) (xs : Nat → Int32) : Prop :=
  p.tables.exec = Jvm.exec ∧ c.code = code ∧ meth.sig.returnType = ret ∧ c.maxLocals = 4 ∧ s.vm.findClass R_law = some m.cls ∧ (∀ w ∈ lw_tbl, w.before #[Value.ref b] s = true) ∧ va_X b L xs s s.heap ∧ b < s.heap.size ∧ meth.locks = false ∧ (Jvm.Cond.and given_1 narrow_1).before #[Value.ref b] s = true

def LW (p : Program) (l : Launch) (e : Env) (s : State) (m : MethodId) (below : List Frame) (meth : Method) (c : Code) (b : Nat) (D : va_G) (cc : Nat → ClassId) (a a2 : Nat → Nat) (u v : Mem) (pc : Nat) (i : Int32) : Prop :=
  ∀ (H : Heap) (locs : List Loc) (ls : Array Slot), va_P D vwCl (wlC cc a u) H → va_P D vwCl (wlM cc a2 v) H → va_S (fun z => s.heap.size ≤ z) s.heap H locs → lv_has ls 4 [(0, .ref b), (1, .ref (a 0)), (2, .ref (a2 0)), (3, .int i)] → W p l e room_1 s m #[Value.ref b] below meth c H locs 82 9782 (lw_Z below #[Value.ref b] s) (F0 m pc ls [])
/-- what holds all along the law's loop -/
def LStat (s : State) (D : va_G) (cc : Nat → ClassId) (a a2 : Nat → Nat) (tU : Nat) (adK adV : Nat → Nat) : Prop :=
  va_K D vwCl (tysC cc) s ∧ va_K D vwCl (tysM cc) s ∧ EC tU adK adV (fun z => s.heap.size ≤ z) s ∧ (∀ u, va_D (AC a) (wlC cc a u)) ∧ (∀ v, va_D (AM a2) (wlM cc a2 v)) ∧ (∀ q, AC a q → s.heap.size ≤ q) ∧ (∀ q, AM a2 q → s.heap.size ≤ q) ∧ ∀ q, AC a q → ¬ AM a2 q
theorem EC.narrow {tU : Nat} {adK adV : Nat → Nat} {A B : Nat → Prop} {U : State} (h : EC tU adK adV A U) (hAB : ∀ q, B q → A q) : EC tU adK adV B U := by
  obtain ⟨h1, h2, h3, h4, h5, h6, h7⟩ := h
  exact ⟨h1.narrow hAB, h2.narrow hAB, h3.narrow hAB, h4.narrow hAB, h5.narrow hAB, h6, h7⟩
theorem wlC_kept {D : va_G} {cc : Nat → ClassId} {a : Nat → Nat} {u : Mem} {H H1 : Heap} (hP : va_P D vwCl (wlC cc a u) H) (hk : ∀ q, q < H.size → AC a q → H1[q]? = H[q]?) : va_P D vwCl (wlC cc a u) H1 := by
  refine hP.kept (fun k q hq => ?_)
  have hl := (hP k q hq).lt
  have hk2 : k < 64 := by
    have := (List.getElem?_eq_some_iff.mp hq).1
    simpa [wlC] using this
  rw [wlC_at hk2] at hq
  cases hq
  exact hk _ hl ⟨k, hk2, rfl⟩
theorem wlM_kept {D : va_G} {cc : Nat → ClassId} {a : Nat → Nat} {u : Mem} {H H1 : Heap} (hP : va_P D vwCl (wlM cc a u) H) (hk : ∀ q, q < H.size → AM a q → H1[q]? = H[q]?) : va_P D vwCl (wlM cc a u) H1 := by
  refine hP.kept (fun k q hq => ?_)
  have hl := (hP k q hq).lt
  have hk2 : k < 18 := by
    have := (List.getElem?_eq_some_iff.mp hq).1
    simpa [wlM] using this
  rw [wlM_at hk2] at hq
  cases hq
  exact hk _ hl ⟨k, hk2, rfl⟩
theorem lg_self (x : Int64) : lg_cmp x x = 0 := by
  unfold lg_cmp
  rw [if_neg (show ¬ x > x from Int64.lt_irrefl), if_pos rfl]
section
variable {p : Program} {l : Launch} {e : Env} {R : Room} {s : State} {m : MethodId} {args : Array Value} {below : List Frame} {meth : Method} {c : Code} {H : Heap} {locs : List Loc} {cells slots : Nat} {Q : State → Prop}
variable {D : va_G} {tys : List (ClassId × FieldType)} {A A0 : Nat → Prop} {E : State → Prop} {y : MethodName} {b cc : ByteArray} {mL nL fr lo n index : Nat} {rt : Option FieldType} {As rest st0 : List Value} {w w2 : va_W} {r : Option Value} {own : String} {pc : Nat} {ls : Array Slot} {bb : Nat}
theorem MM.out (hM : MM l D tys A E y b mL rt fr lo (.ref bb :: As) w r w2) (hcv : CV own index y b mL rt n) (S : CallFix p m c cc nL s args gtbl own) (hE : EnvOK A E) (hEU : ∀ U : State, U.heap = H → s.WarmedH U.vm → E U) (hK : va_K D vwCl tys s) (hR : fr + 1 ≤ R.frames ∧ 8 + (mL + 11) + lo ≤ R.locals)
    (hrecv : ∃ cell : Cell, H[bb]? = some cell ∧ cell.vm.isStatics = false ∧ s.vm.findClass y.cls = some cell.cls) (hn : As.length = n) (hst : st0 = As.reverse ++ .ref bb :: rest) (hsize : ls.size = nL) (hW : (rest.map fun v => v.category).sum ≤ 8) (hdg : decode cc pc = .ok (.invokevirtual index, 3)) (hf : cells ≤ R.cells ∧ slots ≤ R.slots)
    (hP : va_P D vwCl w H) (hD : va_D A w) (hS : va_S A0 s.heap H locs) (hsub : ∀ q, A q → A0 q)
    (kk : ∀ (H1 : Heap) (locs1 : List Loc), va_P D vwCl w2 H1 → (∀ q, q < H.size → ¬ A q → H1[q]? = H[q]?) → va_S A0 s.heap H1 locs1 → W p l e R s m args below meth c H1 locs1 cells slots Q (F0 m (pc + 3) ls (r.toList ++ rest))) : W p l e R s m args below meth c H locs cells slots Q (F0 m pc ls st0) := by
  obtain ⟨⟨g1, g2, g3, g4, g5⟩, g6⟩ := hcv
  have hrun := va_runV (As := As) (rest := rest) (g := F0 m pc ls st0) (H := H) (locs := locs) (cells := cells) (slots := slots) (below := below) (meth := meth) (e := e) (R := R) S hM ⟨callB_mm S.2.2.2.2 hR g1 g4 g5 g6, S.2.2.2.2 _ g2, S.2.2.2.2 _ g3⟩ ⟨MPre.blind hE _, hrecv, fun U hU hW => ⟨rfl, by rw [hU]; exact hP, va_K.moved hW.alike hK, hD, hEU U hU hW⟩⟩ rfl hn hsize hst (lv_room hW) hdg hf
  intro T hT X
  obtain ⟨v, st₀, t, T', L, h0, X', hL, e1, e2, ⟨⟨hv, hp, hd⟩, hz, hk⟩, st⟩ := hrun T hT X
  cases hv
  rw [h0] at hz hk
  obtain ⟨t2, a1, b1⟩ := kk T'.heap (locs ++ L) (by rw [e1]; exact hp) (fun q h1 h2 => by rw [e1]; exact hk q h1 h2)
    ⟨Nat.le_trans hS.1 (by rw [e1]; exact hz), fun q h1 h2 => by rw [e1, hk q (Nat.lt_of_lt_of_le h1 hS.1) (fun z => h2 (hsub q z))]; exact hS.2.1 q h1 h2, fun q hq => by
      rcases List.mem_append.mp hq with h | h
      · exact hS.2.2 q h
      · exact hsub _ (hL q h)⟩ T' rfl X'
  exact ⟨t2, st t2 a1, b1⟩
end
section
variable {p : Program} {l : Launch} {e : Env} {R : Room} {s : State} {m : MethodId} {args : Array Value} {below : List Frame} {meth : Method} {c : Code} {H : Heap} {locs : List Loc} {cells slots : Nat} {Q : State → Prop}
variable {D : va_G} {cl : Nat → ClassId} {a a2 : Nat → Nat} {tU : Nat} {adK adV : Nat → Nat} {u u' v v' : Mem} {y : MethodName} {b cc : ByteArray} {mL nL fr lo n index : Nat} {rt : Option FieldType} {As rest st0 : List Value} {r : Option Value} {own : String} {pc : Nat} {ls : Array Slot}
theorem lawC (C0 : LStat s D cl a a2 tU adK adV) (hM : MC l D cl a tU adK adV y b mL rt fr lo (.ref (a 0) :: As) u r u') (hyc : y.cls = RX6) (hcv : CV own index y b mL rt n) (S : CallFix p m c cc nL s args gtbl own) (hR : fr + 1 ≤ R.frames ∧ 8 + (mL + 11) + lo ≤ R.locals)
    (hn : As.length = n) (hst : st0 = As.reverse ++ .ref (a 0) :: rest) (hsize : ls.size = nL) (hW : (rest.map fun v => v.category).sum ≤ 8) (hdg : decode cc pc = .ok (.invokevirtual index, 3)) (hf : cells ≤ R.cells ∧ slots ≤ R.slots)
    (hPC : va_P D vwCl (wlC cl a u) H) (hPM : va_P D vwCl (wlM cl a2 v) H) (hS : va_S (fun z => s.heap.size ≤ z) s.heap H locs)
    (kk : ∀ (H1 : Heap) (locs1 : List Loc), va_P D vwCl (wlC cl a u') H1 → va_P D vwCl (wlM cl a2 v) H1 → va_S (fun z => s.heap.size ≤ z) s.heap H1 locs1 → W p l e R s m args below meth c H1 locs1 cells slots Q (F0 m (pc + 3) ls (r.toList ++ rest))) : W p l e R s m args below meth c H locs cells slots Q (F0 m pc ls st0) := by
  obtain ⟨hKC, hKM, hE, hDC, hDM, hAC, hAM, hdis⟩ := C0
  refine MM.out hM hcv S ecOK (fun U hU hW => (ecOK.2 s U hE (fun q h1 h2 => by rw [hU]; exact hS.2.1 q h1 h2) hW).narrow hAC) hKC hR (by rw [hyc]; exact va_recv hKC hPC rfl c_SP) hn hst hsize hW hdg hf hPC (hDC u) hS hAC (fun H1 locs1 h1 h2 h3 => kk H1 locs1 h1 (wlM_kept hPM (fun q g1 g2 => h2 q g1 (fun z => hdis q z g2))) h3)
theorem lawM (C0 : LStat s D cl a a2 tU adK adV) (hM : MR l D cl a2 y b mL rt fr lo (.ref (a2 0) :: As) v r v') (hyc : y.cls = RX7) (hcv : CV own index y b mL rt n) (S : CallFix p m c cc nL s args gtbl own) (hR : fr + 1 ≤ R.frames ∧ 8 + (mL + 11) + lo ≤ R.locals)
    (hn : As.length = n) (hst : st0 = As.reverse ++ .ref (a2 0) :: rest) (hsize : ls.size = nL) (hW : (rest.map fun v => v.category).sum ≤ 8) (hdg : decode cc pc = .ok (.invokevirtual index, 3)) (hf : cells ≤ R.cells ∧ slots ≤ R.slots)
    (hPC : va_P D vwCl (wlC cl a u) H) (hPM : va_P D vwCl (wlM cl a2 v) H) (hS : va_S (fun z => s.heap.size ≤ z) s.heap H locs)
    (kk : ∀ (H1 : Heap) (locs1 : List Loc), va_P D vwCl (wlC cl a u) H1 → va_P D vwCl (wlM cl a2 v') H1 → va_S (fun z => s.heap.size ≤ z) s.heap H1 locs1 → W p l e R s m args below meth c H1 locs1 cells slots Q (F0 m (pc + 3) ls (r.toList ++ rest))) : W p l e R s m args below meth c H locs cells slots Q (F0 m pc ls st0) := by
  obtain ⟨hKC, hKM, hE, hDC, hDM, hAC, hAM, hdis⟩ := C0
  refine MM.out hM hcv S emOK (fun _ _ _ => trivial) hKM hR (by rw [hyc]; exact va_recv hKM hPM rfl c_MO) hn hst hsize hW hdg hf hPM (hDM v) hS hAM (fun H1 locs1 h1 h2 h3 => kk H1 locs1 (wlC_kept hPC (fun q g1 g2 => h2 q g1 (fun z => hdis q g2 z))) h1 h3)
end
