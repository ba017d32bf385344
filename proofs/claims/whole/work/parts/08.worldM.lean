/-! THE REFERENCE'S WORLD: 18 cells. 0 the object; 1 row, 2 scratches, 3 found, 4 can, 5 byYears, 6 isRing, 7 few, 8 queue, 9 tape, 10 bitsOf, 11 sizeOf, 12 sheets, 13 lent, 14 image, 15 before, 16 marksKept, 17 marksBefore. -/
def kdM (i : Nat) : Nat := ([7, 8, 9, 8, 10, 8, 10, 8, 8, 8, 8, 8, 9, 9, 8, 8, 9, 9] : List Nat).getD i 99
def lenM (i : Nat) : Nat := ([0, 50, 12, 7, 144, 12, 4096, 4096, 12, 120, 4, 4, 160, 40, 50, 50, 12, 12] : List Nat).getD i 0
def ceM (cc : Nat → ClassId) (a : Nat → Nat) (u : Mem) (i : Nat) : va_E := match kdM i with
  | 7 => .inr (7, [.ref (a 1), .ref (a 2), .ref (a 3), .ref (a 4), .ref (a 5), .ref (a 6), .ref (a 7), .ref (a 8), .ref (a 9), .int (u.1 i 9), .int (u.1 i 10), .int (u.1 i 11), .int (u.1 i 12), .long (u.2 i 13), .int (u.1 i 14), .int (u.1 i 15), .ref (a 10), .ref (a 11), .ref (a 12), .ref (a 13), .ref (a 14), .ref (a 15), .ref (a 16), .ref (a 17), .int (u.1 i 24)])
  | 8 => .inl (cc 0, lenM i, .inl (u.1 i))
  | 9 => .inl (cc 1, lenM i, .inr (.inl (u.2 i)))
  | _ => .inl (cc 4, lenM i, .inl (u.1 i))
def wlM (cc : Nat → ClassId) (a : Nat → Nat) (u : Mem) : va_W := (List.range 18).map (fun i => (a i, ceM cc a u i))
abbrev tysM (cc : Nat → ClassId) : List (ClassId × FieldType) := [(cc 0, .int), (cc 1, .long), (cc 4, .boolean)]
def AM (a : Nat → Nat) : Nat → Prop := fun q => ∃ i, i < 18 ∧ q = a i
theorem wlM_at {cc : Nat → ClassId} {a : Nat → Nat} {u : Mem} {i : Nat} (h : i < 18) : (wlM cc a u)[i]? = some (a i, ceM cc a u i) := by
  simp [wlM, h]
theorem ceM_sI {cc : Nat → ClassId} {a : Nat → Nat} {u : Mem} {i k j : Nat} {v : Int32} (h : j ≠ i) : ceM cc a (sI u i k v) j = ceM cc a u j := by
  have e2 : (sI u i k v).1 j = u.1 j := funext (fun b => if_neg (fun z => h z.1))
  have e3 : (sI u i k v).2 = u.2 := rfl
  unfold ceM
  rw [e2, e3]
theorem ceM_sL {cc : Nat → ClassId} {a : Nat → Nat} {u : Mem} {i k j : Nat} {v : Int64} (h : j ≠ i) : ceM cc a (sL u i k v) j = ceM cc a u j := by
  have e2 : (sL u i k v).2 j = u.2 j := funext (fun b => if_neg (fun z => h z.1))
  have e3 : (sL u i k v).1 = u.1 := rfl
  unfold ceM
  rw [e2, e3]
theorem wlM_set {cc : Nat → ClassId} {a : Nat → Nat} {u u2 : Mem} {i : Nat} {x : va_E} (hi : i < 18) (h1 : ceM cc a u2 i = x) (h2 : ∀ j, j ≠ i → ceM cc a u2 j = ceM cc a u j) : (wlM cc a u).set i (a i, x) = wlM cc a u2 := by
  apply List.ext_getElem?
  intro j
  by_cases hj : j < 18
  · rw [wlM_at hj, List.getElem?_set]
    by_cases e : i = j
    · subst e; rw [if_pos rfl, if_pos (by simp [wlM, hj]), h1]
    · rw [if_neg e, wlM_at hj, h2 j (fun z => e z.symm)]
  · rw [List.getElem?_eq_none (by simp [wlM]; omega), List.getElem?_eq_none (by simp [wlM]; omega)]
theorem wlM_D {cc : Nat → ClassId} {a : Nat → Nat} {u u2 : Mem} {A : Nat → Prop} (h : va_D A (wlM cc a u)) : va_D A (wlM cc a u2) := by
  have key : ∀ (u' : Mem) (k : Nat) (q : Nat × va_E), (wlM cc a u')[k]? = some q → k < 18 ∧ q.1 = a k := by
    intro u' k q hq
    have hk : k < 18 := by
      have := (List.getElem?_eq_some_iff.mp hq).1
      simpa [wlM] using this
    rw [wlM_at hk] at hq
    cases hq
    exact ⟨hk, rfl⟩
  refine ⟨fun i j p q hp hq e => ?_, fun k q hq => ?_⟩
  · obtain ⟨hi, e1⟩ := key u2 i p hp
    obtain ⟨hj, e2⟩ := key u2 j q hq
    exact h.1 i j _ _ (wlM_at hi) (wlM_at hj) (by show a i = a j; rw [← e1, ← e2, e])
  · obtain ⟨hk, e1⟩ := key u2 k q hq
    rw [e1]
    exact h.2 k _ (wlM_at hk)
abbrev MR (l : Launch) (D : va_G) (cc : Nat → ClassId) (a : Nat → Nat) (y : MethodName) (b : ByteArray) (mL : Nat) (rt : Option FieldType) (fr lo : Nat) (av : List Value) (u : Mem) (r : Option Value) (u2 : Mem) : Prop :=
  MM l D (tysM cc) (AM a) (fun _ => True) y b mL rt fr lo av (wlM cc a u) r (wlM cc a u2)
section
variable {cc : Nat → ClassId} {a : Nat → Nat} {u : Mem}
theorem c_MO : (wlM cc a u)[0]? = some (a 0, .inr (7, [.ref (a 1), .ref (a 2), .ref (a 3), .ref (a 4), .ref (a 5), .ref (a 6), .ref (a 7), .ref (a 8), .ref (a 9), .int (u.1 0 9), .int (u.1 0 10), .int (u.1 0 11), .int (u.1 0 12), .long (u.2 0 13), .int (u.1 0 14), .int (u.1 0 15), .ref (a 10), .ref (a 11), .ref (a 12), .ref (a 13), .ref (a 14), .ref (a 15), .ref (a 16), .ref (a 17), .int (u.1 0 24)])) := wlM_at (by decide)
theorem ce_MI {y : Nat} (h : kdM y = 8) : ceM cc a u y = .inl (cc 0, lenM y, .inl (u.1 y)) := by
  unfold ceM
  rw [h]
  rfl
theorem ce_ML {y : Nat} (h : kdM y = 9) : ceM cc a u y = .inl (cc 1, lenM y, .inr (.inl (u.2 y))) := by
  unfold ceM
  rw [h]
  rfl
theorem ce_MZ {y : Nat} (h : kdM y = 10) : ceM cc a u y = .inl (cc 4, lenM y, .inl (u.1 y)) := by
  unfold ceM
  rw [h]
  rfl
theorem c_MI {y : Nat} (h : kdM y = 8 ∧ y < 18) : (wlM cc a u)[y]? = some (a y, .inl (cc 0, lenM y, .inl (u.1 y))) := by rw [wlM_at h.2, ce_MI h.1]
theorem c_ML {y : Nat} (h : kdM y = 9 ∧ y < 18) : (wlM cc a u)[y]? = some (a y, .inl (cc 1, lenM y, .inr (.inl (u.2 y)))) := by rw [wlM_at h.2, ce_ML h.1]
theorem c_MZ {y : Nat} (h : kdM y = 10 ∧ y < 18) : (wlM cc a u)[y]? = some (a y, .inl (cc 4, lenM y, .inl (u.1 y))) := by rw [wlM_at h.2, ce_MZ h.1]
theorem z_MO {k : Nat} (hk : k = 9 ∨ k = 10 ∨ k = 11 ∨ k = 12 ∨ k = 14 ∨ k = 15 ∨ k = 24) {v : Int32} : (wlM cc a u).set 0 (a 0, .inr (7, ([.ref (a 1), .ref (a 2), .ref (a 3), .ref (a 4), .ref (a 5), .ref (a 6), .ref (a 7), .ref (a 8), .ref (a 9), .int (u.1 0 9), .int (u.1 0 10), .int (u.1 0 11), .int (u.1 0 12), .long (u.2 0 13), .int (u.1 0 14), .int (u.1 0 15), .ref (a 10), .ref (a 11), .ref (a 12), .ref (a 13), .ref (a 14), .ref (a 15), .ref (a 16), .ref (a 17), .int (u.1 0 24)] : List Value).set k (.int v))) = wlM cc a (sI u 0 k v) := by
  refine wlM_set (by decide) ?_ (fun _ h => ceM_sI h)
  rcases hk with rfl | rfl | rfl | rfl | rfl | rfl | rfl <;> rfl
theorem z_MOl {v : Int64} : (wlM cc a u).set 0 (a 0, .inr (7, ([.ref (a 1), .ref (a 2), .ref (a 3), .ref (a 4), .ref (a 5), .ref (a 6), .ref (a 7), .ref (a 8), .ref (a 9), .int (u.1 0 9), .int (u.1 0 10), .int (u.1 0 11), .int (u.1 0 12), .long (u.2 0 13), .int (u.1 0 14), .int (u.1 0 15), .ref (a 10), .ref (a 11), .ref (a 12), .ref (a 13), .ref (a 14), .ref (a 15), .ref (a 16), .ref (a 17), .int (u.1 0 24)] : List Value).set 13 (.long v))) = wlM cc a (sL u 0 13 v) := wlM_set (by decide) rfl (fun _ h => ceM_sL h)
theorem z_MI {y k : Nat} (h : kdM y = 8 ∧ y < 18) {v : Int32} : (wlM cc a u).set y (a y, .inl (cc 0, lenM y, .inl (upd (u.1 y) k v))) = wlM cc a (sI u y k v) := by
  refine wlM_set h.2 ?_ (fun _ h => ceM_sI h)
  rw [ce_MI h.1, sI_upd]
theorem z_ML {y k : Nat} (h : kdM y = 9 ∧ y < 18) {v : Int64} : (wlM cc a u).set y (a y, .inl (cc 1, lenM y, .inr (.inl (vp_updL (u.2 y) k v)))) = wlM cc a (sL u y k v) := by
  refine wlM_set h.2 ?_ (fun _ h => ceM_sL h)
  rw [ce_ML h.1, sL_upd]
theorem z_MZ {y k : Nat} (h : kdM y = 10 ∧ y < 18) {v : Int32} : (wlM cc a u).set y (a y, .inl (cc 4, lenM y, .inl (upd (u.1 y) k v))) = wlM cc a (sI u y k v) := by
  refine wlM_set h.2 ?_ (fun _ h => ceM_sI h)
  rw [ce_MZ h.1, sI_upd]
end
section RM
variable {p : Program} {l : Launch} {e : Env} {R : Room} {s : State} {m : MethodId} {args : Array Value} {below : List Frame} {meth : Method} {c : Code} {H : Heap} {locs : List Loc} {cells slots : Nat} {Q : State → Prop}
variable {D : va_G} {cc : Nat → ClassId} {a : Nat → Nat} {u : Mem} {A : Nat → Prop} {bc : ByteArray} {nL : Nat} {rest : List Value} {own : String} {pc : Nat} {ls : Array Slot}
theorem mIald {y n : Nat} {i : Int32} (S : CallFix p m c bc nL s args gtbl own) (hK : va_K D vwCl (tysM cc) s) (hP : va_P D vwCl (wlM cc a u) H) (hy : kdM y = 8 ∧ y < 18) (hn : lenM y = n) (hin : vp_in i n) (hdg : decode bc pc = .ok (.iaload, 1)) (kk : W p l e R s m args below meth c H locs cells slots Q (F0 m (pc + 1) ls (.int (u.1 y i.toNatClampNeg) :: rest))) : W p l e R s m args below meth c H locs cells slots Q (F0 m pc ls (.int i :: .ref (a y) :: rest)) := by
  subst hn
  exact va_iald S.1 S.2.1 hK hP y 0 (c_MI hy) rfl hin hdg kk
theorem mZald {y n : Nat} {i : Int32} (S : CallFix p m c bc nL s args gtbl own) (hK : va_K D vwCl (tysM cc) s) (hP : va_P D vwCl (wlM cc a u) H) (hy : kdM y = 10 ∧ y < 18) (hn : lenM y = n) (hin : vp_in i n) (hdg : decode bc pc = .ok (.baload, 1)) (kk : W p l e R s m args below meth c H locs cells slots Q (F0 m (pc + 1) ls (.int (u.1 y i.toNatClampNeg) :: rest))) : W p l e R s m args below meth c H locs cells slots Q (F0 m pc ls (.int i :: .ref (a y) :: rest)) := by
  subst hn
  exact va_zald S.1 S.2.1 hK hP y 2 (c_MZ hy) rfl hin hdg kk
theorem mLald {y n : Nat} {i : Int32} (S : CallFix p m c bc nL s args gtbl own) (hK : va_K D vwCl (tysM cc) s) (hP : va_P D vwCl (wlM cc a u) H) (hy : kdM y = 9 ∧ y < 18) (hn : lenM y = n) (hin : vp_in i n) (hdg : decode bc pc = .ok (.laload, 1)) (kk : W p l e R s m args below meth c H locs cells slots Q (F0 m (pc + 1) ls (.long (u.2 y i.toNatClampNeg) :: rest))) : W p l e R s m args below meth c H locs cells slots Q (F0 m pc ls (.int i :: .ref (a y) :: rest)) := by
  subst hn
  exact va_lald S.1 S.2.1 hK hP y 1 (c_ML hy) rfl hin hdg kk
theorem mIast {y n : Nat} {i x : Int32} (S : CallFix p m c bc nL s args gtbl own) (hK : va_K D vwCl (tysM cc) s) (hP : va_P D vwCl (wlM cc a u) H) (hD : va_D A (wlM cc a u)) (hS : va_S A s.heap H locs) (hy : kdM y = 8 ∧ y < 18) (hn : lenM y = n) (hin : vp_in i n) (hdg : decode bc pc = .ok (.iastore, 1)) (kk : ∀ (H1 : Heap) (locs1 : List Loc), va_P D vwCl (wlM cc a (sI u y i.toNatClampNeg x)) H1 → va_D A (wlM cc a (sI u y i.toNatClampNeg x)) → va_S A s.heap H1 locs1 → W p l e R s m args below meth c H1 locs1 cells slots Q (F0 m (pc + 1) ls rest)) : W p l e R s m args below meth c H locs cells slots Q (F0 m pc ls (.int x :: .int i :: .ref (a y) :: rest)) := by
  subst hn
  exact va_iast S.1 S.2.1 hK hP hD hS y 0 (c_MI hy) rfl hin hdg (fun H1 locs1 h1 h2 h3 => kk H1 locs1 (z_MI hy ▸ h1) (z_MI hy ▸ h2) h3)
theorem mZast {y n : Nat} {i x : Int32} (S : CallFix p m c bc nL s args gtbl own) (hK : va_K D vwCl (tysM cc) s) (hP : va_P D vwCl (wlM cc a u) H) (hD : va_D A (wlM cc a u)) (hS : va_S A s.heap H locs) (hy : kdM y = 10 ∧ y < 18) (hn : lenM y = n) (hin : vp_in i n) (hdg : decode bc pc = .ok (.bastore, 1)) (kk : ∀ (H1 : Heap) (locs1 : List Loc), va_P D vwCl (wlM cc a (sI u y i.toNatClampNeg (vp_nar .boolean x))) H1 → va_D A (wlM cc a (sI u y i.toNatClampNeg (vp_nar .boolean x))) → va_S A s.heap H1 locs1 → W p l e R s m args below meth c H1 locs1 cells slots Q (F0 m (pc + 1) ls rest)) : W p l e R s m args below meth c H locs cells slots Q (F0 m pc ls (.int x :: .int i :: .ref (a y) :: rest)) := by
  subst hn
  exact va_zast S.1 S.2.1 hK hP hD hS y 2 (c_MZ hy) rfl hin hdg (fun H1 locs1 h1 h2 h3 => kk H1 locs1 (z_MZ hy ▸ h1) (z_MZ hy ▸ h2) h3)
theorem mLast {y n : Nat} {i : Int32} {x : Int64} (S : CallFix p m c bc nL s args gtbl own) (hK : va_K D vwCl (tysM cc) s) (hP : va_P D vwCl (wlM cc a u) H) (hD : va_D A (wlM cc a u)) (hS : va_S A s.heap H locs) (hy : kdM y = 9 ∧ y < 18) (hn : lenM y = n) (hin : vp_in i n) (hdg : decode bc pc = .ok (.lastore, 1)) (kk : ∀ (H1 : Heap) (locs1 : List Loc), va_P D vwCl (wlM cc a (sL u y i.toNatClampNeg x)) H1 → va_D A (wlM cc a (sL u y i.toNatClampNeg x)) → va_S A s.heap H1 locs1 → W p l e R s m args below meth c H1 locs1 cells slots Q (F0 m (pc + 1) ls rest)) : W p l e R s m args below meth c H locs cells slots Q (F0 m pc ls (.long x :: .int i :: .ref (a y) :: rest)) := by
  subst hn
  exact va_last S.1 S.2.1 hK hP hD hS y 1 (c_ML hy) rfl hin hdg (fun H1 locs1 h1 h2 h3 => kk H1 locs1 (z_ML hy ▸ h1) (z_ML hy ▸ h2) h3)
end RM
