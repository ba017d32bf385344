/-! THE CLASS'S WORLD: 64 cells. 0 the object; 1 2 3 the rows of prints of the archives 4 5 6 (at hand, kept, before); 7 the rings, 8 to 14 their rows (laters, mates, row, dealt, members, followers, orderCounts); 15 16 the tape; 17 the reader; 18 the row of sheets, 19 to 22 the sheets, 23 to 26 their numbers; 27 the tally; 28 to 63 the prints, twelve an archive. -/
def kdC (i : Nat) : Nat := if i = 0 then 6 else if i ≤ 3 then 11 else if i ≤ 6 then 0 else if i = 7 then 2 else if i ≤ 14 then 8 else if i = 15 then 4 else if i = 16 then 8 else if i = 17 then 5 else if i = 18 then 12 else if i ≤ 22 then 3 else if i ≤ 26 then 9 else if i = 27 then 8 else 1
def lenC (i : Nat) : Nat := if i ≤ 11 then 12 else if i ≤ 13 then 8 else if i = 14 then 256 else if i = 16 then 120 else if i = 27 then 7 else 40
def ceC (cc : Nat → ClassId) (a : Nat → Nat) (u : Mem) (i : Nat) : va_E := match kdC i with
  | 0 => .inr (0, [.ref (a (i - 3)), .int (u.1 i 1), .int (u.1 i 2)])
  | 1 => .inr (1, [.int (u.1 i 0), .int (u.1 i 1), .int (u.1 i 2), .int (u.1 i 3), .long (u.2 i 4)])
  | 2 => .inr (2, [.ref (a 4), .ref (a 8), .ref (a 9), .ref (a 10), .ref (a 11), .ref (a 12), .ref (a 13), .ref (a 14), .int (u.1 i 8), .int (u.1 i 9), .int (u.1 i 10)])
  | 3 => .inr (3, [.ref (a (i + 4)), .int (u.1 i 1), .int (u.1 i 2)])
  | 4 => .inr (4, [.ref (a 16), .int (u.1 i 1)])
  | 5 => .inr (5, [.ref (a 15), .ref (a 4), .ref (a 6), .int (u.1 i 3), .int (u.1 i 4), .int (u.1 i 5), .int (u.1 i 6)])
  | 6 => .inr (6, [.ref (a 4), .ref (a 5), .ref (a 7), .ref (a 15), .ref (a 17), .ref (a 18), .ref (a 27), .int (u.1 i 7)])
  | 8 => .inl (cc 0, lenC i, .inl (u.1 i))
  | 9 => .inl (cc 1, 40, .inr (.inl (u.2 i)))
  | 11 => .inl (cc 2, 12, .inr (.inr (.inr (.inr (fun k => some (a (12 * i + 16 + k)))))))
  | _ => .inl (cc 3, 4, .inr (.inr (.inr (.inr (fun k => some (a (k + 19)))))))
def wlC (cc : Nat → ClassId) (a : Nat → Nat) (u : Mem) : va_W := (List.range 64).map (fun i => (a i, ceC cc a u i))
abbrev tysC (cc : Nat → ClassId) : List (ClassId × FieldType) := [(cc 0, .int), (cc 1, .long), (cc 2, .object RX1), (cc 3, .object RX3)]
def AC (a : Nat → Nat) : Nat → Prop := fun q => ∃ i, i < 64 ∧ q = a i
theorem wlC_at {cc : Nat → ClassId} {a : Nat → Nat} {u : Mem} {i : Nat} (h : i < 64) : (wlC cc a u)[i]? = some (a i, ceC cc a u i) := by
  simp [wlC, h]
theorem ceC_sI {cc : Nat → ClassId} {a : Nat → Nat} {u : Mem} {i k j : Nat} {v : Int32} (h : j ≠ i) : ceC cc a (sI u i k v) j = ceC cc a u j := by
  have e : ∀ b, (sI u i k v).1 j b = u.1 j b := fun b => if_neg (fun z => h z.1)
  have e2 : (sI u i k v).1 j = u.1 j := funext e
  have e3 : (sI u i k v).2 = u.2 := rfl
  unfold ceC
  rw [e2, e3]
theorem ceC_sL {cc : Nat → ClassId} {a : Nat → Nat} {u : Mem} {i k j : Nat} {v : Int64} (h : j ≠ i) : ceC cc a (sL u i k v) j = ceC cc a u j := by
  have e : ∀ b, (sL u i k v).2 j b = u.2 j b := fun b => if_neg (fun z => h z.1)
  have e2 : (sL u i k v).2 j = u.2 j := funext e
  have e3 : (sL u i k v).1 = u.1 := rfl
  unfold ceC
  rw [e2, e3]
theorem wlC_set {cc : Nat → ClassId} {a : Nat → Nat} {u u2 : Mem} {i : Nat} {x : va_E} (hi : i < 64) (h1 : ceC cc a u2 i = x) (h2 : ∀ j, j ≠ i → ceC cc a u2 j = ceC cc a u j) : (wlC cc a u).set i (a i, x) = wlC cc a u2 := by
  apply List.ext_getElem?
  intro j
  by_cases hj : j < 64
  · rw [wlC_at hj, List.getElem?_set]
    by_cases e : i = j
    · subst e; rw [if_pos rfl, if_pos (by simp [wlC, hj]), h1]
    · rw [if_neg e, wlC_at hj, h2 j (fun z => e z.symm)]
  · rw [List.getElem?_eq_none (by simp [wlC]; omega), List.getElem?_eq_none (by simp [wlC]; omega)]
theorem wlC_D {cc : Nat → ClassId} {a : Nat → Nat} {u u2 : Mem} {A : Nat → Prop} (h : va_D A (wlC cc a u)) : va_D A (wlC cc a u2) := by
  have key : ∀ (u' : Mem) (k : Nat) (q : Nat × va_E), (wlC cc a u')[k]? = some q → k < 64 ∧ q.1 = a k := by
    intro u' k q hq
    have hk : k < 64 := by
      have := (List.getElem?_eq_some_iff.mp hq).1
      simpa [wlC] using this
    rw [wlC_at hk] at hq
    cases hq
    exact ⟨hk, rfl⟩
  refine ⟨fun i j p q hp hq e => ?_, fun k q hq => ?_⟩
  · obtain ⟨hi, e1⟩ := key u2 i p hp
    obtain ⟨hj, e2⟩ := key u2 j q hq
    exact h.1 i j _ _ (wlC_at hi) (wlC_at hj) (by show a i = a j; rw [← e1, ← e2, e])
  · obtain ⟨hk, e1⟩ := key u2 k q hq
    rw [e1]
    exact h.2 k _ (wlC_at hk)
section
variable {cc : Nat → ClassId} {a : Nat → Nat} {u : Mem}
theorem c_SP : (wlC cc a u)[0]? = some (a 0, .inr (6, [.ref (a 4), .ref (a 5), .ref (a 7), .ref (a 15), .ref (a 17), .ref (a 18), .ref (a 27), .int (u.1 0 7)])) := wlC_at (by decide)
theorem c_AR {t : Nat} (h : 1 ≤ t ∧ t ≤ 3) : (wlC cc a u)[t + 3]? = some (a (t + 3), .inr (0, [.ref (a t), .int (u.1 (t + 3) 1), .int (u.1 (t + 3) 2)])) := by
  rw [wlC_at (by omega)]
  rcases (show t = 1 ∨ t = 2 ∨ t = 3 by omega) with rfl | rfl | rfl <;> rfl
theorem c_PA {t : Nat} (h : 1 ≤ t ∧ t ≤ 3) : (wlC cc a u)[t]? = some (a t, .inl (cc 2, 12, .inr (.inr (.inr (.inr (fun k => some (a (12 * t + 16 + k)))))))) := by
  rw [wlC_at (by omega)]
  rcases (show t = 1 ∨ t = 2 ∨ t = 3 by omega) with rfl | rfl | rfl <;> rfl
theorem kd_PR {x : Nat} (h : 28 ≤ x) : kdC x = 1 := by
  unfold kdC
  rw [if_neg (by omega), if_neg (by omega), if_neg (by omega), if_neg (by omega), if_neg (by omega), if_neg (by omega), if_neg (by omega), if_neg (by omega), if_neg (by omega), if_neg (by omega), if_neg (by omega), if_neg (by omega)]
theorem ce_PR {x : Nat} (h : 28 ≤ x) : ceC cc a u x = .inr (1, [.int (u.1 x 0), .int (u.1 x 1), .int (u.1 x 2), .int (u.1 x 3), .long (u.2 x 4)]) := by
  unfold ceC
  rw [kd_PR h]
  rfl
theorem ce_IA {y : Nat} (h : kdC y = 8) : ceC cc a u y = .inl (cc 0, lenC y, .inl (u.1 y)) := by
  unfold ceC
  rw [h]
  rfl
theorem c_PR {x : Nat} (h : 28 ≤ x ∧ x ≤ 63) : (wlC cc a u)[x]? = some (a x, .inr (1, [.int (u.1 x 0), .int (u.1 x 1), .int (u.1 x 2), .int (u.1 x 3), .long (u.2 x 4)])) := by
  rw [wlC_at (by omega), ce_PR h.1]
theorem c_RI : (wlC cc a u)[7]? = some (a 7, .inr (2, [.ref (a 4), .ref (a 8), .ref (a 9), .ref (a 10), .ref (a 11), .ref (a 12), .ref (a 13), .ref (a 14), .int (u.1 7 8), .int (u.1 7 9), .int (u.1 7 10)])) := wlC_at (by decide)
theorem c_IA {y : Nat} (h : kdC y = 8 ∧ y < 64) : (wlC cc a u)[y]? = some (a y, .inl (cc 0, lenC y, .inl (u.1 y))) := by
  rw [wlC_at h.2, ce_IA h.1]
theorem c_TA : (wlC cc a u)[15]? = some (a 15, .inr (4, [.ref (a 16), .int (u.1 15 1)])) := wlC_at (by decide)
theorem c_TR : (wlC cc a u)[17]? = some (a 17, .inr (5, [.ref (a 15), .ref (a 4), .ref (a 6), .int (u.1 17 3), .int (u.1 17 4), .int (u.1 17 5), .int (u.1 17 6)])) := wlC_at (by decide)
theorem c_SA : (wlC cc a u)[18]? = some (a 18, .inl (cc 3, 4, .inr (.inr (.inr (.inr (fun k => some (a (k + 19)))))))) := wlC_at (by decide)
theorem c_SH {t : Nat} (h : t < 4) : (wlC cc a u)[t + 19]? = some (a (t + 19), .inr (3, [.ref (a (t + 23)), .int (u.1 (t + 19) 1), .int (u.1 (t + 19) 2)])) := by
  rw [wlC_at (by omega)]
  rcases (show t = 0 ∨ t = 1 ∨ t = 2 ∨ t = 3 by omega) with rfl | rfl | rfl | rfl <;> rfl
theorem c_LA {t : Nat} (h : t < 4) : (wlC cc a u)[t + 23]? = some (a (t + 23), .inl (cc 1, 40, .inr (.inl (u.2 (t + 23))))) := by
  rw [wlC_at (by omega)]
  rcases (show t = 0 ∨ t = 1 ∨ t = 2 ∨ t = 3 by omega) with rfl | rfl | rfl | rfl <;> rfl
theorem z_SP {v : Int32} : (wlC cc a u).set 0 (a 0, .inr (6, ([.ref (a 4), .ref (a 5), .ref (a 7), .ref (a 15), .ref (a 17), .ref (a 18), .ref (a 27), .int (u.1 0 7)] : List Value).set 7 (.int v))) = wlC cc a (sI u 0 7 v) := wlC_set (by decide) rfl (fun _ h => ceC_sI h)
theorem z_AR1 {t : Nat} (h : 1 ≤ t ∧ t ≤ 3) {v : Int32} : (wlC cc a u).set (t + 3) (a (t + 3), .inr (0, ([.ref (a t), .int (u.1 (t + 3) 1), .int (u.1 (t + 3) 2)] : List Value).set 1 (.int v))) = wlC cc a (sI u (t + 3) 1 v) := by
  refine wlC_set (by omega) ?_ (fun _ h => ceC_sI h)
  rcases (show t = 1 ∨ t = 2 ∨ t = 3 by omega) with rfl | rfl | rfl <;> rfl
theorem z_AR2 {t : Nat} (h : 1 ≤ t ∧ t ≤ 3) {v : Int32} : (wlC cc a u).set (t + 3) (a (t + 3), .inr (0, ([.ref (a t), .int (u.1 (t + 3) 1), .int (u.1 (t + 3) 2)] : List Value).set 2 (.int v))) = wlC cc a (sI u (t + 3) 2 v) := by
  refine wlC_set (by omega) ?_ (fun _ h => ceC_sI h)
  rcases (show t = 1 ∨ t = 2 ∨ t = 3 by omega) with rfl | rfl | rfl <;> rfl
theorem sI_eq {i k : Nat} {v : Int32} : (sI u i k v).1 i k = v := if_pos ⟨rfl, rfl⟩
theorem sI_k {i k k2 : Nat} {v : Int32} (h : k2 ≠ k) : (sI u i k v).1 i k2 = u.1 i k2 := if_neg (fun z => h z.2)
theorem sI_i {i k i2 k2 : Nat} {v : Int32} (h : i2 ≠ i) : (sI u i k v).1 i2 k2 = u.1 i2 k2 := if_neg (fun z => h z.1)
theorem sL_eq {i k : Nat} {v : Int64} : (sL u i k v).2 i k = v := if_pos ⟨rfl, rfl⟩
theorem sL_k {i k k2 : Nat} {v : Int64} (h : k2 ≠ k) : (sL u i k v).2 i k2 = u.2 i k2 := if_neg (fun z => h z.2)
theorem sL_i {i k i2 k2 : Nat} {v : Int64} (h : i2 ≠ i) : (sL u i k v).2 i2 k2 = u.2 i2 k2 := if_neg (fun z => h z.1)
theorem sI_2 {i k : Nat} {v : Int32} : (sI u i k v).2 = u.2 := rfl
theorem sL_1 {i k : Nat} {v : Int64} : (sL u i k v).1 = u.1 := rfl
theorem sI_upd {i k : Nat} {v : Int32} : (sI u i k v).1 i = upd (u.1 i) k v := by
  funext j
  by_cases h : j = k
  · subst h; rw [sI_eq, pk_us]
  · rw [sI_k h, pk_un h]
theorem sL_upd {i k : Nat} {v : Int64} : (sL u i k v).2 i = vp_updL (u.2 i) k v := by
  funext j
  by_cases h : j = k
  · subst h; rw [sL_eq, pk_uLs]
  · rw [sL_k h, pk_uLn h]
theorem z_PRi {x k : Nat} (h : 28 ≤ x ∧ x ≤ 63) (hk : k < 4) {v : Int32} : (wlC cc a u).set x (a x, .inr (1, ([.int (u.1 x 0), .int (u.1 x 1), .int (u.1 x 2), .int (u.1 x 3), .long (u.2 x 4)] : List Value).set k (.int v))) = wlC cc a (sI u x k v) := by
  refine wlC_set (by omega) ?_ (fun _ h => ceC_sI h)
  rw [ce_PR h.1]
  rcases (show k = 0 ∨ k = 1 ∨ k = 2 ∨ k = 3 by omega) with rfl | rfl | rfl | rfl
  · rw [sI_eq, sI_k (show (1 : Nat) ≠ 0 by decide), sI_k (show (2 : Nat) ≠ 0 by decide), sI_k (show (3 : Nat) ≠ 0 by decide)]; rfl
  · rw [sI_eq, sI_k (show (0 : Nat) ≠ 1 by decide), sI_k (show (2 : Nat) ≠ 1 by decide), sI_k (show (3 : Nat) ≠ 1 by decide)]; rfl
  · rw [sI_eq, sI_k (show (0 : Nat) ≠ 2 by decide), sI_k (show (1 : Nat) ≠ 2 by decide), sI_k (show (3 : Nat) ≠ 2 by decide)]; rfl
  · rw [sI_eq, sI_k (show (0 : Nat) ≠ 3 by decide), sI_k (show (1 : Nat) ≠ 3 by decide), sI_k (show (2 : Nat) ≠ 3 by decide)]; rfl
theorem z_PRl {x : Nat} (h : 28 ≤ x ∧ x ≤ 63) {v : Int64} : (wlC cc a u).set x (a x, .inr (1, ([.int (u.1 x 0), .int (u.1 x 1), .int (u.1 x 2), .int (u.1 x 3), .long (u.2 x 4)] : List Value).set 4 (.long v))) = wlC cc a (sL u x 4 v) := by
  refine wlC_set (by omega) ?_ (fun _ h => ceC_sL h)
  rw [ce_PR h.1, sL_eq, sL_1]
  rfl
theorem z_RI {k : Nat} (hk : k = 8 ∨ k = 9 ∨ k = 10) {v : Int32} : (wlC cc a u).set 7 (a 7, .inr (2, ([.ref (a 4), .ref (a 8), .ref (a 9), .ref (a 10), .ref (a 11), .ref (a 12), .ref (a 13), .ref (a 14), .int (u.1 7 8), .int (u.1 7 9), .int (u.1 7 10)] : List Value).set k (.int v))) = wlC cc a (sI u 7 k v) := by
  refine wlC_set (by decide) ?_ (fun _ h => ceC_sI h)
  rcases hk with rfl | rfl | rfl <;> rfl
theorem z_TA {v : Int32} : (wlC cc a u).set 15 (a 15, .inr (4, ([.ref (a 16), .int (u.1 15 1)] : List Value).set 1 (.int v))) = wlC cc a (sI u 15 1 v) := wlC_set (by decide) rfl (fun _ h => ceC_sI h)
theorem z_TR {k : Nat} (hk : k = 3 ∨ k = 4 ∨ k = 5 ∨ k = 6) {v : Int32} : (wlC cc a u).set 17 (a 17, .inr (5, ([.ref (a 15), .ref (a 4), .ref (a 6), .int (u.1 17 3), .int (u.1 17 4), .int (u.1 17 5), .int (u.1 17 6)] : List Value).set k (.int v))) = wlC cc a (sI u 17 k v) := by
  refine wlC_set (by decide) ?_ (fun _ h => ceC_sI h)
  rcases hk with rfl | rfl | rfl | rfl <;> rfl
theorem z_SH {t k : Nat} (h : t < 4) (hk : k = 1 ∨ k = 2) {v : Int32} : (wlC cc a u).set (t + 19) (a (t + 19), .inr (3, ([.ref (a (t + 23)), .int (u.1 (t + 19) 1), .int (u.1 (t + 19) 2)] : List Value).set k (.int v))) = wlC cc a (sI u (t + 19) k v) := by
  refine wlC_set (by omega) ?_ (fun _ h => ceC_sI h)
  rcases (show t = 0 ∨ t = 1 ∨ t = 2 ∨ t = 3 by omega) with rfl | rfl | rfl | rfl <;> rcases hk with rfl | rfl <;> rfl
theorem z_IA {y k : Nat} (h : kdC y = 8 ∧ y < 64) {v : Int32} : (wlC cc a u).set y (a y, .inl (cc 0, lenC y, .inl (upd (u.1 y) k v))) = wlC cc a (sI u y k v) := by
  refine wlC_set h.2 ?_ (fun _ h => ceC_sI h)
  rw [ce_IA h.1, sI_upd]
theorem z_LA {t k : Nat} (h : t < 4) {v : Int64} : (wlC cc a u).set (t + 23) (a (t + 23), .inl (cc 1, 40, .inr (.inl (vp_updL (u.2 (t + 23)) k v)))) = wlC cc a (sL u (t + 23) k v) := by
  refine wlC_set (by omega) ?_ (fun _ h => ceC_sL h)
  rw [← sL_upd]
  rcases (show t = 0 ∨ t = 1 ∨ t = 2 ∨ t = 3 by omega) with rfl | rfl | rfl | rfl <;> rfl
theorem r_PR {t : Nat} {i : Int32} (h : 1 ≤ t ∧ t ≤ 3) (hi : vp_in i 12) : 28 ≤ 12 * t + 16 + i.toNatClampNeg ∧ 12 * t + 16 + i.toNatClampNeg ≤ 63 := by
  have := vp_lt hi
  omega
end
