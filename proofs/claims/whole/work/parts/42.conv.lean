def u0C : Mem := (fun i k => if (i = 4 ∨ i = 5 ∨ i = 6) ∧ k = 2 then 20 else 0, fun _ _ => 0)
def u0M : Mem := (fun i k => if i = 1 ∧ k = 1 then 20 else 0, fun _ _ => 0)
section
variable {D : va_G} {cc : Nat → ClassId} {H : Heap} {h0 : Nat} {q1 : Nat} {f2 : Nat → Nat} {q3 : Nat} {f4 : Nat → Nat} {q5 : Nat} {f6 : Nat → Nat} {q7 : Nat} {q8 : Nat} {q9 : Nat} {q10 : Nat} {f11 : Nat → Nat} {q12 : Nat} {q13 : Nat} {q14 : Nat} {q15 : Nat} {q16 : Nat} {q17 : Nat} {q18 : Nat} {q19 : Nat} {q20 : Nat} {q21 : Nat}
set_option maxRecDepth 100000 in
set_option maxHeartbeats 8000000 in
theorem conv_C (hP : va_P D vwCl ([(h0, .inr (6, [.ref q1, .ref q3, .ref q5, .ref q7, .ref q9, .ref q12, .ref q21, .int 0]))] ++ (arW (cc 2) q1 f2 ++ (arW (cc 2) q3 f4 ++ (riW cc q5 q1 f6 ++ ([(q7, .inr (4, [.ref q8, .int 0])), (q8, .inl (cc 0, 120, .inl (fun _ => 0))), (q9, .inr (5, [.ref q7, .ref q1, .ref q10, .int 0, .int 0, .int 0, .int 0]))] ++ (arW (cc 2) q10 f11 ++ ([(q12, .inl (cc 3, 4, .inr (.inr (.inr (.inr (va_up (va_up (va_up (va_up (fun _ => none) 0 (some q13)) 1 (some q15)) 2 (some q17)) 3 (some q19))))))), (q13, .inr (3, [.ref q14, .int 0, .int 0])), (q14, .inl (cc 1, 40, .inr (.inl (fun _ => 0)))), (q15, .inr (3, [.ref q16, .int 0, .int 0])), (q16, .inl (cc 1, 40, .inr (.inl (fun _ => 0)))), (q17, .inr (3, [.ref q18, .int 0, .int 0])), (q18, .inl (cc 1, 40, .inr (.inl (fun _ => 0)))), (q19, .inr (3, [.ref q20, .int 0, .int 0])), (q20, .inl (cc 1, 40, .inr (.inl (fun _ => 0)))), (q21, .inl (cc 0, 7, .inl (fun _ => 0)))]))))))) H) : va_P D vwCl (wlC cc (fun i => ([h0, (f2 12), (f4 12), (f11 12), q1, q3, q10, q5, (f6 0), (f6 1), (f6 2), (f6 3), (f6 4), (f6 5), (f6 6), q7, q8, q9, q12, q13, q15, q17, q19, q14, q16, q18, q20, q21, (f2 0), (f2 1), (f2 2), (f2 3), (f2 4), (f2 5), (f2 6), (f2 7), (f2 8), (f2 9), (f2 10), (f2 11), (f4 0), (f4 1), (f4 2), (f4 3), (f4 4), (f4 5), (f4 6), (f4 7), (f4 8), (f4 9), (f4 10), (f4 11), (f11 0), (f11 1), (f11 2), (f11 3), (f11 4), (f11 5), (f11 6), (f11 7), (f11 8), (f11 9), (f11 10), (f11 11)] : List Nat).getD i 0) u0C) H := by
  have key : ∀ i, i < 64 → va_at D vwCl ((fun i => ([h0, (f2 12), (f4 12), (f11 12), q1, q3, q10, q5, (f6 0), (f6 1), (f6 2), (f6 3), (f6 4), (f6 5), (f6 6), q7, q8, q9, q12, q13, q15, q17, q19, q14, q16, q18, q20, q21, (f2 0), (f2 1), (f2 2), (f2 3), (f2 4), (f2 5), (f2 6), (f2 7), (f2 8), (f2 9), (f2 10), (f2 11), (f4 0), (f4 1), (f4 2), (f4 3), (f4 4), (f4 5), (f4 6), (f4 7), (f4 8), (f4 9), (f4 10), (f4 11), (f11 0), (f11 1), (f11 2), (f11 3), (f11 4), (f11 5), (f11 6), (f11 7), (f11 8), (f11 9), (f11 10), (f11 11)] : List Nat).getD i 0) i, ceC cc (fun i => ([h0, (f2 12), (f4 12), (f11 12), q1, q3, q10, q5, (f6 0), (f6 1), (f6 2), (f6 3), (f6 4), (f6 5), (f6 6), q7, q8, q9, q12, q13, q15, q17, q19, q14, q16, q18, q20, q21, (f2 0), (f2 1), (f2 2), (f2 3), (f2 4), (f2 5), (f2 6), (f2 7), (f2 8), (f2 9), (f2 10), (f2 11), (f4 0), (f4 1), (f4 2), (f4 3), (f4 4), (f4 5), (f4 6), (f4 7), (f4 8), (f4 9), (f4 10), (f4 11), (f11 0), (f11 1), (f11 2), (f11 3), (f11 4), (f11 5), (f11 6), (f11 7), (f11 8), (f11 9), (f11 10), (f11 11)] : List Nat).getD i 0) u0C i) H := by
    intro i hi
    match i, hi with
    | 0, _ => exact hP 0 _ rfl
    | 1, _ => exact va_at_q (hP 2 _ rfl) (fun j hj => by rcases (show j = 0 ∨ j = 1 ∨ j = 2 ∨ j = 3 ∨ j = 4 ∨ j = 5 ∨ j = 6 ∨ j = 7 ∨ j = 8 ∨ j = 9 ∨ j = 10 ∨ j = 11 by omega) with rfl | rfl | rfl | rfl | rfl | rfl | rfl | rfl | rfl | rfl | rfl | rfl <;> rfl)
    | 2, _ => exact va_at_q (hP 16 _ rfl) (fun j hj => by rcases (show j = 0 ∨ j = 1 ∨ j = 2 ∨ j = 3 ∨ j = 4 ∨ j = 5 ∨ j = 6 ∨ j = 7 ∨ j = 8 ∨ j = 9 ∨ j = 10 ∨ j = 11 by omega) with rfl | rfl | rfl | rfl | rfl | rfl | rfl | rfl | rfl | rfl | rfl | rfl <;> rfl)
    | 3, _ => exact va_at_q (hP 41 _ rfl) (fun j hj => by rcases (show j = 0 ∨ j = 1 ∨ j = 2 ∨ j = 3 ∨ j = 4 ∨ j = 5 ∨ j = 6 ∨ j = 7 ∨ j = 8 ∨ j = 9 ∨ j = 10 ∨ j = 11 by omega) with rfl | rfl | rfl | rfl | rfl | rfl | rfl | rfl | rfl | rfl | rfl | rfl <;> rfl)
    | 4, _ => exact hP 1 _ rfl
    | 5, _ => exact hP 15 _ rfl
    | 6, _ => exact hP 40 _ rfl
    | 7, _ => exact hP 29 _ rfl
    | 8, _ => exact hP 30 _ rfl
    | 9, _ => exact hP 31 _ rfl
    | 10, _ => exact hP 32 _ rfl
    | 11, _ => exact hP 33 _ rfl
    | 12, _ => exact hP 34 _ rfl
    | 13, _ => exact hP 35 _ rfl
    | 14, _ => exact hP 36 _ rfl
    | 15, _ => exact hP 37 _ rfl
    | 16, _ => exact hP 38 _ rfl
    | 17, _ => exact hP 39 _ rfl
    | 18, _ => exact va_at_q (hP 54 _ rfl) (fun j hj => by rcases (show j = 0 ∨ j = 1 ∨ j = 2 ∨ j = 3 by omega) with rfl | rfl | rfl | rfl <;> rfl)
    | 19, _ => exact hP 55 _ rfl
    | 20, _ => exact hP 57 _ rfl
    | 21, _ => exact hP 59 _ rfl
    | 22, _ => exact hP 61 _ rfl
    | 23, _ => exact hP 56 _ rfl
    | 24, _ => exact hP 58 _ rfl
    | 25, _ => exact hP 60 _ rfl
    | 26, _ => exact hP 62 _ rfl
    | 27, _ => exact hP 63 _ rfl
    | 28, _ => exact hP 3 _ rfl
    | 29, _ => exact hP 4 _ rfl
    | 30, _ => exact hP 5 _ rfl
    | 31, _ => exact hP 6 _ rfl
    | 32, _ => exact hP 7 _ rfl
    | 33, _ => exact hP 8 _ rfl
    | 34, _ => exact hP 9 _ rfl
    | 35, _ => exact hP 10 _ rfl
    | 36, _ => exact hP 11 _ rfl
    | 37, _ => exact hP 12 _ rfl
    | 38, _ => exact hP 13 _ rfl
    | 39, _ => exact hP 14 _ rfl
    | 40, _ => exact hP 17 _ rfl
    | 41, _ => exact hP 18 _ rfl
    | 42, _ => exact hP 19 _ rfl
    | 43, _ => exact hP 20 _ rfl
    | 44, _ => exact hP 21 _ rfl
    | 45, _ => exact hP 22 _ rfl
    | 46, _ => exact hP 23 _ rfl
    | 47, _ => exact hP 24 _ rfl
    | 48, _ => exact hP 25 _ rfl
    | 49, _ => exact hP 26 _ rfl
    | 50, _ => exact hP 27 _ rfl
    | 51, _ => exact hP 28 _ rfl
    | 52, _ => exact hP 42 _ rfl
    | 53, _ => exact hP 43 _ rfl
    | 54, _ => exact hP 44 _ rfl
    | 55, _ => exact hP 45 _ rfl
    | 56, _ => exact hP 46 _ rfl
    | 57, _ => exact hP 47 _ rfl
    | 58, _ => exact hP 48 _ rfl
    | 59, _ => exact hP 49 _ rfl
    | 60, _ => exact hP 50 _ rfl
    | 61, _ => exact hP 51 _ rfl
    | 62, _ => exact hP 52 _ rfl
    | 63, _ => exact hP 53 _ rfl
    | n + 64, h => exact absurd h (by omega)
  intro k q hq
  have hk : k < 64 := by
    have := (List.getElem?_eq_some_iff.mp hq).1
    simpa [wlC] using this
  rw [wlC_at hk] at hq
  cases hq
  exact key k hk
set_option maxRecDepth 100000 in
set_option maxHeartbeats 8000000 in
theorem conv_Cat {w : va_W} (hw : w = [(h0, .inr (6, [.ref q1, .ref q3, .ref q5, .ref q7, .ref q9, .ref q12, .ref q21, .int 0]))] ++ (arW (cc 2) q1 f2 ++ (arW (cc 2) q3 f4 ++ (riW cc q5 q1 f6 ++ ([(q7, .inr (4, [.ref q8, .int 0])), (q8, .inl (cc 0, 120, .inl (fun _ => 0))), (q9, .inr (5, [.ref q7, .ref q1, .ref q10, .int 0, .int 0, .int 0, .int 0]))] ++ (arW (cc 2) q10 f11 ++ ([(q12, .inl (cc 3, 4, .inr (.inr (.inr (.inr (va_up (va_up (va_up (va_up (fun _ => none) 0 (some q13)) 1 (some q15)) 2 (some q17)) 3 (some q19))))))), (q13, .inr (3, [.ref q14, .int 0, .int 0])), (q14, .inl (cc 1, 40, .inr (.inl (fun _ => 0)))), (q15, .inr (3, [.ref q16, .int 0, .int 0])), (q16, .inl (cc 1, 40, .inr (.inl (fun _ => 0)))), (q17, .inr (3, [.ref q18, .int 0, .int 0])), (q18, .inl (cc 1, 40, .inr (.inl (fun _ => 0)))), (q19, .inr (3, [.ref q20, .int 0, .int 0])), (q20, .inl (cc 1, 40, .inr (.inl (fun _ => 0)))), (q21, .inl (cc 0, 7, .inl (fun _ => 0)))]))))))) : ∀ i, i < 64 → ∃ x, w[([0, 2, 16, 41, 1, 15, 40, 29, 30, 31, 32, 33, 34, 35, 36, 37, 38, 39, 54, 55, 57, 59, 61, 56, 58, 60, 62, 63, 3, 4, 5, 6, 7, 8, 9, 10, 11, 12, 13, 14, 17, 18, 19, 20, 21, 22, 23, 24, 25, 26, 27, 28, 42, 43, 44, 45, 46, 47, 48, 49, 50, 51, 52, 53] : List Nat).getD i 0]? = some (([h0, (f2 12), (f4 12), (f11 12), q1, q3, q10, q5, (f6 0), (f6 1), (f6 2), (f6 3), (f6 4), (f6 5), (f6 6), q7, q8, q9, q12, q13, q15, q17, q19, q14, q16, q18, q20, q21, (f2 0), (f2 1), (f2 2), (f2 3), (f2 4), (f2 5), (f2 6), (f2 7), (f2 8), (f2 9), (f2 10), (f2 11), (f4 0), (f4 1), (f4 2), (f4 3), (f4 4), (f4 5), (f4 6), (f4 7), (f4 8), (f4 9), (f4 10), (f4 11), (f11 0), (f11 1), (f11 2), (f11 3), (f11 4), (f11 5), (f11 6), (f11 7), (f11 8), (f11 9), (f11 10), (f11 11)] : List Nat).getD i 0, x) := by
  subst hw
  intro i hi
  match i, hi with
  | 0, _ => exact ⟨_, rfl⟩
  | 1, _ => exact ⟨_, rfl⟩
  | 2, _ => exact ⟨_, rfl⟩
  | 3, _ => exact ⟨_, rfl⟩
  | 4, _ => exact ⟨_, rfl⟩
  | 5, _ => exact ⟨_, rfl⟩
  | 6, _ => exact ⟨_, rfl⟩
  | 7, _ => exact ⟨_, rfl⟩
  | 8, _ => exact ⟨_, rfl⟩
  | 9, _ => exact ⟨_, rfl⟩
  | 10, _ => exact ⟨_, rfl⟩
  | 11, _ => exact ⟨_, rfl⟩
  | 12, _ => exact ⟨_, rfl⟩
  | 13, _ => exact ⟨_, rfl⟩
  | 14, _ => exact ⟨_, rfl⟩
  | 15, _ => exact ⟨_, rfl⟩
  | 16, _ => exact ⟨_, rfl⟩
  | 17, _ => exact ⟨_, rfl⟩
  | 18, _ => exact ⟨_, rfl⟩
  | 19, _ => exact ⟨_, rfl⟩
  | 20, _ => exact ⟨_, rfl⟩
  | 21, _ => exact ⟨_, rfl⟩
  | 22, _ => exact ⟨_, rfl⟩
  | 23, _ => exact ⟨_, rfl⟩
  | 24, _ => exact ⟨_, rfl⟩
  | 25, _ => exact ⟨_, rfl⟩
  | 26, _ => exact ⟨_, rfl⟩
  | 27, _ => exact ⟨_, rfl⟩
  | 28, _ => exact ⟨_, rfl⟩
  | 29, _ => exact ⟨_, rfl⟩
  | 30, _ => exact ⟨_, rfl⟩
  | 31, _ => exact ⟨_, rfl⟩
  | 32, _ => exact ⟨_, rfl⟩
  | 33, _ => exact ⟨_, rfl⟩
  | 34, _ => exact ⟨_, rfl⟩
  | 35, _ => exact ⟨_, rfl⟩
  | 36, _ => exact ⟨_, rfl⟩
  | 37, _ => exact ⟨_, rfl⟩
  | 38, _ => exact ⟨_, rfl⟩
  | 39, _ => exact ⟨_, rfl⟩
  | 40, _ => exact ⟨_, rfl⟩
  | 41, _ => exact ⟨_, rfl⟩
  | 42, _ => exact ⟨_, rfl⟩
  | 43, _ => exact ⟨_, rfl⟩
  | 44, _ => exact ⟨_, rfl⟩
  | 45, _ => exact ⟨_, rfl⟩
  | 46, _ => exact ⟨_, rfl⟩
  | 47, _ => exact ⟨_, rfl⟩
  | 48, _ => exact ⟨_, rfl⟩
  | 49, _ => exact ⟨_, rfl⟩
  | 50, _ => exact ⟨_, rfl⟩
  | 51, _ => exact ⟨_, rfl⟩
  | 52, _ => exact ⟨_, rfl⟩
  | 53, _ => exact ⟨_, rfl⟩
  | 54, _ => exact ⟨_, rfl⟩
  | 55, _ => exact ⟨_, rfl⟩
  | 56, _ => exact ⟨_, rfl⟩
  | 57, _ => exact ⟨_, rfl⟩
  | 58, _ => exact ⟨_, rfl⟩
  | 59, _ => exact ⟨_, rfl⟩
  | 60, _ => exact ⟨_, rfl⟩
  | 61, _ => exact ⟨_, rfl⟩
  | 62, _ => exact ⟨_, rfl⟩
  | 63, _ => exact ⟨_, rfl⟩
  | n + 64, h => exact absurd h (by omega)
end
theorem perm64 : ∀ i, i < 64 → ∀ j, j < 64 → (([0, 2, 16, 41, 1, 15, 40, 29, 30, 31, 32, 33, 34, 35, 36, 37, 38, 39, 54, 55, 57, 59, 61, 56, 58, 60, 62, 63, 3, 4, 5, 6, 7, 8, 9, 10, 11, 12, 13, 14, 17, 18, 19, 20, 21, 22, 23, 24, 25, 26, 27, 28, 42, 43, 44, 45, 46, 47, 48, 49, 50, 51, 52, 53] : List Nat).getD i 0 = ([0, 2, 16, 41, 1, 15, 40, 29, 30, 31, 32, 33, 34, 35, 36, 37, 38, 39, 54, 55, 57, 59, 61, 56, 58, 60, 62, 63, 3, 4, 5, 6, 7, 8, 9, 10, 11, 12, 13, 14, 17, 18, 19, 20, 21, 22, 23, 24, 25, 26, 27, 28, 42, 43, 44, 45, 46, 47, 48, 49, 50, 51, 52, 53] : List Nat).getD j 0) → i = j := by decide +kernel
/-- apart, and where they lie: out of the list that was made -/
theorem conv_D {N : Nat} {z0 : Nat} {w : va_W} {a : Nat → Nat} {pm : Nat → Nat} (hD : va_D (fun z => z0 ≤ z) w) (h : ∀ i, i < N → ∃ x, w[pm i]? = some (a i, x)) (hp : ∀ i, i < N → ∀ j, j < N → pm i = pm j → i = j) : (∀ i, i < N → ∀ j, j < N → a i = a j → i = j) ∧ ∀ i, i < N → z0 ≤ a i := by
  refine ⟨fun i hi j hj e => ?_, fun i hi => ?_⟩
  · obtain ⟨x, hx⟩ := h i hi
    obtain ⟨y, hy⟩ := h j hj
    exact hp i hi j hj (hD.1 _ _ _ _ hx hy e)
  · obtain ⟨x, hx⟩ := h i hi
    exact hD.2 _ _ hx
theorem wlC_Dof {cc : Nat → ClassId} {a : Nat → Nat} (h : ∀ i, i < 64 → ∀ j, j < 64 → a i = a j → i = j) (u : Mem) : va_D (AC a) (wlC cc a u) := by
  have key : ∀ (k : Nat) (q : Nat × va_E), (wlC cc a u)[k]? = some q → k < 64 ∧ q.1 = a k := by
    intro k q hq
    have hk : k < 64 := by
      have := (List.getElem?_eq_some_iff.mp hq).1
      simpa [wlC] using this
    rw [wlC_at hk] at hq
    cases hq
    exact ⟨hk, rfl⟩
  refine ⟨fun i j p q hp hq e => ?_, fun k q hq => ?_⟩
  · obtain ⟨hi, e1⟩ := key i p hp
    obtain ⟨hj, e2⟩ := key j q hq
    exact h i hi j hj (by rw [← e1, ← e2, e])
  · obtain ⟨hk, e1⟩ := key k q hq
    exact ⟨k, hk, e1⟩
theorem wlM_Dof {cc : Nat → ClassId} {a : Nat → Nat} (h : ∀ i, i < 18 → ∀ j, j < 18 → a i = a j → i = j) (u : Mem) : va_D (AM a) (wlM cc a u) := by
  have key : ∀ (k : Nat) (q : Nat × va_E), (wlM cc a u)[k]? = some q → k < 18 ∧ q.1 = a k := by
    intro k q hq
    have hk : k < 18 := by
      have := (List.getElem?_eq_some_iff.mp hq).1
      simpa [wlM] using this
    rw [wlM_at hk] at hq
    cases hq
    exact ⟨hk, rfl⟩
  refine ⟨fun i j p q hp hq e => ?_, fun k q hq => ?_⟩
  · obtain ⟨hi, e1⟩ := key i p hp
    obtain ⟨hj, e2⟩ := key j q hq
    exact h i hi j hj (by rw [← e1, ← e2, e])
  · obtain ⟨hk, e1⟩ := key k q hq
    exact ⟨k, hk, e1⟩
theorem u0M_row : upd (fun _ => (0 : Int32)) 1 20 = u0M.1 1 := by
  funext k
  by_cases h : k = 1
  · subst h; rfl
  · rw [pk_un h]; exact (if_neg (fun z => h z.2)).symm
section
variable {D : va_G} {cc : Nat → ClassId} {H : Heap} {h0 q1 q2 q3 q4 q5 q6 q7 q8 q9 q10 q11 q12 q13 q14 q15 q16 q17 : Nat}
set_option maxRecDepth 100000 in
set_option maxHeartbeats 8000000 in
theorem conv_M (hP : va_P D vwCl ([(h0, .inr (7, [.ref q1, .ref q2, .ref q3, .ref q4, .ref q5, .ref q6, .ref q7, .ref q8, .ref q9, .int 0, .int 0, .int 0, .int 0, .long 0, .int 0, .int 0, .ref q10, .ref q11, .ref q12, .ref q13, .ref q14, .ref q15, .ref q16, .ref q17, .int 0])), (q1, .inl (cc 0, 50, .inl (upd (fun _ => 0) 1 20))), (q2, .inl (cc 1, 12, .inr (.inl (fun _ => 0)))), (q3, .inl (cc 0, 7, .inl (fun _ => 0))), (q4, .inl (cc 4, 144, .inl (fun _ => 0))), (q5, .inl (cc 0, 12, .inl (fun _ => 0))), (q6, .inl (cc 4, 4096, .inl (fun _ => 0))), (q7, .inl (cc 0, 4096, .inl (fun _ => 0))), (q8, .inl (cc 0, 12, .inl (fun _ => 0))), (q9, .inl (cc 0, 120, .inl (fun _ => 0))), (q10, .inl (cc 0, 4, .inl (fun _ => 0))), (q11, .inl (cc 0, 4, .inl (fun _ => 0))), (q12, .inl (cc 1, 160, .inr (.inl (fun _ => 0)))), (q13, .inl (cc 1, 40, .inr (.inl (fun _ => 0)))), (q14, .inl (cc 0, 50, .inl (fun _ => 0))), (q15, .inl (cc 0, 50, .inl (fun _ => 0))), (q16, .inl (cc 1, 12, .inr (.inl (fun _ => 0)))), (q17, .inl (cc 1, 12, .inr (.inl (fun _ => 0))))]) H) : va_P D vwCl (wlM cc (fun i => ([h0, q1, q2, q3, q4, q5, q6, q7, q8, q9, q10, q11, q12, q13, q14, q15, q16, q17] : List Nat).getD i 0) u0M) H := by
  have key : ∀ i, i < 18 → va_at D vwCl ((fun i => ([h0, q1, q2, q3, q4, q5, q6, q7, q8, q9, q10, q11, q12, q13, q14, q15, q16, q17] : List Nat).getD i 0) i, ceM cc (fun i => ([h0, q1, q2, q3, q4, q5, q6, q7, q8, q9, q10, q11, q12, q13, q14, q15, q16, q17] : List Nat).getD i 0) u0M i) H := by
    rw [u0M_row] at hP
    intro i hi
    match i, hi with
    | 0, _ => exact hP 0 _ rfl
    | 1, _ => exact hP 1 _ rfl
    | 2, _ => exact hP 2 _ rfl
    | 3, _ => exact hP 3 _ rfl
    | 4, _ => exact hP 4 _ rfl
    | 5, _ => exact hP 5 _ rfl
    | 6, _ => exact hP 6 _ rfl
    | 7, _ => exact hP 7 _ rfl
    | 8, _ => exact hP 8 _ rfl
    | 9, _ => exact hP 9 _ rfl
    | 10, _ => exact hP 10 _ rfl
    | 11, _ => exact hP 11 _ rfl
    | 12, _ => exact hP 12 _ rfl
    | 13, _ => exact hP 13 _ rfl
    | 14, _ => exact hP 14 _ rfl
    | 15, _ => exact hP 15 _ rfl
    | 16, _ => exact hP 16 _ rfl
    | 17, _ => exact hP 17 _ rfl
    | n + 18, h => exact absurd h (by omega)
  intro k q hq
  have hk : k < 18 := by
    have := (List.getElem?_eq_some_iff.mp hq).1
    simpa [wlM] using this
  rw [wlM_at hk] at hq
  cases hq
  exact key k hk
set_option maxRecDepth 100000 in
set_option maxHeartbeats 8000000 in
theorem conv_Mat {w : va_W} (hw : w = [(h0, .inr (7, [.ref q1, .ref q2, .ref q3, .ref q4, .ref q5, .ref q6, .ref q7, .ref q8, .ref q9, .int 0, .int 0, .int 0, .int 0, .long 0, .int 0, .int 0, .ref q10, .ref q11, .ref q12, .ref q13, .ref q14, .ref q15, .ref q16, .ref q17, .int 0])), (q1, .inl (cc 0, 50, .inl (upd (fun _ => 0) 1 20))), (q2, .inl (cc 1, 12, .inr (.inl (fun _ => 0)))), (q3, .inl (cc 0, 7, .inl (fun _ => 0))), (q4, .inl (cc 4, 144, .inl (fun _ => 0))), (q5, .inl (cc 0, 12, .inl (fun _ => 0))), (q6, .inl (cc 4, 4096, .inl (fun _ => 0))), (q7, .inl (cc 0, 4096, .inl (fun _ => 0))), (q8, .inl (cc 0, 12, .inl (fun _ => 0))), (q9, .inl (cc 0, 120, .inl (fun _ => 0))), (q10, .inl (cc 0, 4, .inl (fun _ => 0))), (q11, .inl (cc 0, 4, .inl (fun _ => 0))), (q12, .inl (cc 1, 160, .inr (.inl (fun _ => 0)))), (q13, .inl (cc 1, 40, .inr (.inl (fun _ => 0)))), (q14, .inl (cc 0, 50, .inl (fun _ => 0))), (q15, .inl (cc 0, 50, .inl (fun _ => 0))), (q16, .inl (cc 1, 12, .inr (.inl (fun _ => 0)))), (q17, .inl (cc 1, 12, .inr (.inl (fun _ => 0))))]) : ∀ i, i < 18 → ∃ x, w[([0, 1, 2, 3, 4, 5, 6, 7, 8, 9, 10, 11, 12, 13, 14, 15, 16, 17] : List Nat).getD i 0]? = some (([h0, q1, q2, q3, q4, q5, q6, q7, q8, q9, q10, q11, q12, q13, q14, q15, q16, q17] : List Nat).getD i 0, x) := by
  subst hw
  intro i hi
  match i, hi with
  | 0, _ => exact ⟨_, rfl⟩
  | 1, _ => exact ⟨_, rfl⟩
  | 2, _ => exact ⟨_, rfl⟩
  | 3, _ => exact ⟨_, rfl⟩
  | 4, _ => exact ⟨_, rfl⟩
  | 5, _ => exact ⟨_, rfl⟩
  | 6, _ => exact ⟨_, rfl⟩
  | 7, _ => exact ⟨_, rfl⟩
  | 8, _ => exact ⟨_, rfl⟩
  | 9, _ => exact ⟨_, rfl⟩
  | 10, _ => exact ⟨_, rfl⟩
  | 11, _ => exact ⟨_, rfl⟩
  | 12, _ => exact ⟨_, rfl⟩
  | 13, _ => exact ⟨_, rfl⟩
  | 14, _ => exact ⟨_, rfl⟩
  | 15, _ => exact ⟨_, rfl⟩
  | 16, _ => exact ⟨_, rfl⟩
  | 17, _ => exact ⟨_, rfl⟩
  | n + 18, h => exact absurd h (by omega)
end
theorem perm18 : ∀ i, i < 18 → ∀ j, j < 18 → (([0, 1, 2, 3, 4, 5, 6, 7, 8, 9, 10, 11, 12, 13, 14, 15, 16, 17] : List Nat).getD i 0 = ([0, 1, 2, 3, 4, 5, 6, 7, 8, 9, 10, 11, 12, 13, 14, 15, 16, 17] : List Nat).getD j 0) → i = j := by decide +kernel
