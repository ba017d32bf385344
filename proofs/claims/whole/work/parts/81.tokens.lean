/-! PURE: the tokens of a text -/
def TP (t : Nat → Nat) (k : Nat) (u v : Mem) : Prop := k ≤ 120 ∧ u.1 15 1 = nI k ∧ v.1 0 9 = nI k ∧ ∀ j, j < k → u.1 16 j = nI (t j) ∧ v.1 9 j = nI (t j) ∧ t j < 256
def WS (u u2 : Mem) : Prop := u2.2 = u.2 ∧ ∀ c, c ≠ 17 → u2.1 c = u.1 c
theorem WS.rf (u : Mem) : WS u u := ⟨rfl, fun _ _ => rfl⟩
theorem WS.tr {u u2 u3 : Mem} (h : WS u u2) (g : WS u2 u3) : WS u u3 := ⟨g.1.trans h.1, fun c a => (g.2 c a).trans (h.2 c a)⟩
theorem WS.set {u : Mem} {j : Nat} {x : Int32} : WS u (sI u 17 j x) := ⟨rfl, fun c h => funext fun j => sI_i h⟩
def WA (v v2 : Mem) : Prop := (∀ c, c ≠ 0 → v2.1 c = v.1 c) ∧ (∀ c, c ≠ 0 → v2.2 c = v.2 c) ∧ ∀ j, j ≠ 10 → j ≠ 11 → j ≠ 12 → j ≠ 14 → v2.1 0 j = v.1 0 j
theorem WA.rf (v : Mem) : WA v v := ⟨fun _ _ => rfl, fun _ _ => rfl, fun _ _ _ _ _ => rfl⟩
theorem WA.tr {u u2 u3 : Mem} (h : WA u u2) (g : WA u2 u3) : WA u u3 := ⟨fun c a => (g.1 c a).trans (h.1 c a), fun c a => (g.2.1 c a).trans (h.2.1 c a), fun j a b c d => (g.2.2 j a b c d).trans (h.2.2 j a b c d)⟩
theorem WA.set {v : Mem} {j : Nat} {x : Int32} (h : j = 10 ∨ j = 11 ∨ j = 12 ∨ j = 14) : WA v (sI v 0 j x) := ⟨fun c h => funext fun j => sI_i h, fun c _ => rfl, fun i a b c d => sI_k (by omega)⟩
theorem WA.setl {v : Mem} {j : Nat} {x : Int64} : WA v (sL v 0 j x) := ⟨fun c _ => rfl, fun c h => funext fun j => sL_i h, fun i _ _ _ _ => rfl⟩
theorem TP.fr {t : Nat → Nat} {k : Nat} {u v u2 v2 : Mem} (h : TP t k u v) (h15 : u2.1 15 = u.1 15) (h16 : u2.1 16 = u.1 16) (h9 : v2.1 9 = v.1 9) (h0 : v2.1 0 9 = v.1 0 9) : TP t k u2 v2 := ⟨h.1, by rw [h15]; exact h.2.1, by rw [h0]; exact h.2.2.1, fun j hj => by rw [h16, h9]; exact h.2.2.2 j hj⟩
theorem TP.w {t : Nat → Nat} {k : Nat} {u v u2 v2 : Mem} (h : TP t k u v) (hC : WS u u2) (hM : WA v v2) : TP t k u2 v2 := h.fr (hC.2 15 (by decide)) (hC.2 16 (by decide)) (hM.1 9 (by decide)) (hM.2.2 9 (by decide) (by decide) (by decide) (by decide))
def ba (t : Nat → Nat) (k j : Nat) : Int32 := if j < k then nI (t j) else -1
def le (a : Nat) : Bool := decide (97 ≤ a ∧ a ≤ 122)
def dg (a : Nat) : Bool := decide (48 ≤ a ∧ a ≤ 57)
section
variable {t : Nat → Nat} {k : Nat} {u v : Mem}
theorem at_C (h : TP t k u v) {j : Nat} (hj : j < 2 ^ 31) : F_X4_at u (nI j) = some (ba t k j, u) := by
  have hk := h.1
  unfold F_X4_at F_X4_at_21 F_X4_at_22 ba
  rw [if_neg (nI_pos hj), h.2.1]
  by_cases e : j < k
  · rw [if_neg (nI_ge e (by omega)), if_pos e, gd_nI _ (show j < 120 by omega) (by omega), nI_clamp hj, (h.2.2.2 j e).1]
  · rw [if_pos (nI_le (by omega) hj), if_neg e]
theorem at_M (h : TP t k u v) {j : Nat} (hj : j < 2 ^ 31) : F_X7_byteAt v (nI j) = some (ba t k j, v) := by
  have hk := h.1
  unfold F_X7_byteAt F_X7_byteAt_18 ba
  rw [h.2.2.1]
  by_cases e : j < k
  · rw [if_neg (nI_ge e (by omega)), if_pos e, gd_nI _ (show j < 120 by omega) (by omega), nI_clamp hj, (h.2.2.2 j e).2.1]
  · rw [if_pos (nI_le (by omega) hj), if_neg e]
end
theorem ra_C (a lo hi : Nat) (ha : a < 2 ^ 31) (hlo : lo < 2 ^ 31) (hhi : hi < 2 ^ 31) : decide (¬ nI a < nI lo ∧ ¬ nI hi < nI a) = decide (lo ≤ a ∧ a ≤ hi) := decide_eq_decide.mpr (by
  rw [nI_ltI ha hlo, nI_ltI hhi ha]; omega)
theorem let_C (u : Mem) {a : Nat} (ha : a < 256) : F_X5_isLetter u (nI a) = some (bi (le a), u) := by
  have h : F_X5_isLetter u (nI a) = some (bi (decide (¬ nI a < nI 97 ∧ ¬ nI 122 < nI a)), u) := by
    unfold F_X5_isLetter F_X5_isLetter_16 F_X5_isLetter_17
    by_cases h1 : nI a < nI 97
    · rw [if_pos (show nI a < (97 : Int32) from h1), decide_eq_false (fun z => z.1 h1)]; rfl
    · rw [if_neg (show ¬ nI a < (97 : Int32) from h1)]
      by_cases h2 : nI 122 < nI a
      · rw [if_pos (show (122 : Int32) < nI a from h2), decide_eq_false (fun z => z.2 h2)]; rfl
      · rw [if_neg (show ¬ (122 : Int32) < nI a from h2), decide_eq_true ⟨h1, h2⟩]; rfl
  rw [h, ra_C a 97 122 (by omega) (by omega) (by omega)]; rfl
theorem dig_C (u : Mem) {a : Nat} (ha : a < 256) : F_X5_isDigit u (nI a) = some (bi (dg a), u) := by
  have h : F_X5_isDigit u (nI a) = some (bi (decide (¬ nI a < nI 48 ∧ ¬ nI 57 < nI a)), u) := by
    unfold F_X5_isDigit F_X5_isDigit_16 F_X5_isDigit_17
    by_cases h1 : nI a < nI 48
    · rw [if_pos (show nI a < (48 : Int32) from h1), decide_eq_false (fun z => z.1 h1)]; rfl
    · rw [if_neg (show ¬ nI a < (48 : Int32) from h1)]
      by_cases h2 : nI 57 < nI a
      · rw [if_pos (show (57 : Int32) < nI a from h2), decide_eq_false (fun z => z.2 h2)]; rfl
      · rw [if_neg (show ¬ (57 : Int32) < nI a from h2), decide_eq_true ⟨h1, h2⟩]; rfl
  rw [h, ra_C a 48 57 (by omega) (by omega) (by omega)]; rfl
theorem let_M (v : Mem) {a : Nat} (ha : a < 256) : F_X7_isLetter v (nI a) = some (bi (le a), v) := by
  unfold F_X7_isLetter
  rw [in_M, bdI_s, gz_bi]
  exact congrArg (fun b => some (bi b, v)) (ra_C a 97 122 (by omega) (by omega) (by omega))
theorem dig_M (v : Mem) {a : Nat} (ha : a < 256) : F_X7_isDigit v (nI a) = some (bi (dg a), v) := by
  unfold F_X7_isDigit
  rw [in_M, bdI_s, gz_bi]
  exact congrArg (fun b => some (bi b, v)) (ra_C a 48 57 (by omega) (by omega) (by omega))
theorem let_m1 (v : Mem) : F_X7_isLetter v (-1) = some (0, v) := rfl
theorem dig_m1 (v : Mem) : F_X7_isDigit v (-1) = some (0, v) := rfl
/-! words -/
def hsh (t : Nat → Nat) (b : Nat) : Nat → Nat
  | 0 => 0
  | l + 1 => 27 * hsh t b l + (t (b + l) - 96)
def wh (t : Nat → Nat) (b l : Nat) : Int64 := if l ≤ 12 then lN (hsh t b l) else -1
theorem hsh_lt {t : Nat → Nat} {b : Nat} : ∀ l, (∀ j, j < l → t (b + j) ≤ 122) → hsh t b l < 27 ^ l := by
  intro l
  induction l with
  | zero => intro _; exact Nat.one_pos
  | succ l ih =>
    intro h
    have h1 := ih (fun j hj => h j (by omega))
    have h2 := h l (by omega)
    show 27 * hsh t b l + (t (b + l) - 96) < 27 ^ (l + 1)
    rw [Nat.pow_succ]
    omega
theorem hsh_inj {t t2 : Nat → Nat} {b b2 : Nat} : ∀ l l2, (∀ j, j < l → 97 ≤ t (b + j) ∧ t (b + j) ≤ 122) → (∀ j, j < l2 → 97 ≤ t2 (b2 + j) ∧ t2 (b2 + j) ≤ 122) → hsh t b l = hsh t2 b2 l2 → l = l2 ∧ ∀ j, j < l → t (b + j) = t2 (b2 + j) := by
  intro l
  induction l with
  | zero =>
    intro l2 _ h2 e
    cases l2 with
    | zero => exact ⟨rfl, fun j hj => absurd hj (by omega)⟩
    | succ l2 =>
      have := h2 l2 (by omega)
      have e : 0 = 27 * hsh t2 b2 l2 + (t2 (b2 + l2) - 96) := e
      omega
  | succ l ih =>
    intro l2 h1 h2 e
    have a1 := h1 l (by omega)
    cases l2 with
    | zero =>
      have e : 27 * hsh t b l + (t (b + l) - 96) = 0 := e
      omega
    | succ l2 =>
      have a2 := h2 l2 (by omega)
      have e : 27 * hsh t b l + (t (b + l) - 96) = 27 * hsh t2 b2 l2 + (t2 (b2 + l2) - 96) := e
      obtain ⟨c1, c2⟩ := ih l2 (fun j hj => h1 j (by omega)) (fun j hj => h2 j (by omega)) (by omega)
      subst c1
      refine ⟨rfl, fun j hj => ?_⟩
      by_cases z : j = l
      · rw [z]; omega
      · exact c2 j (by omega)
theorem hsh_eq {t t2 : Nat → Nat} {b b2 : Nat} : ∀ l, (∀ j, j < l → t (b + j) = t2 (b2 + j)) → hsh t b l = hsh t2 b2 l := by
  intro l
  induction l with
  | zero => intro _; rfl
  | succ l ih =>
    intro h
    show 27 * hsh t b l + (t (b + l) - 96) = 27 * hsh t2 b2 l + (t2 (b2 + l) - 96)
    rw [ih (fun j hj => h j (by omega)), h l (by omega)]
theorem wh_s {t : Nat → Nat} {b l : Nat} (h : ∀ j, j < l + 1 → 97 ≤ t (b + j) ∧ t (b + j) ≤ 122) : wh t b (l + 1) = if 12 ≤ l then -1 else 27 * wh t b l + (nI (t (b + l))).toInt64 - 96 := by
  have h0 := h l (by omega)
  unfold wh
  by_cases e : 12 ≤ l
  · rw [if_pos e, if_neg (show ¬ l + 1 ≤ 12 by omega)]
  · rw [if_neg e, if_pos (show l + 1 ≤ 12 by omega), if_pos (show l ≤ 12 by omega), nI_l (by omega), show (27 : Int64) = lN 27 from rfl, show (96 : Int64) = lN 96 from rfl, lN_mul, lN_add, lN_sub (by omega)]
    show lN (27 * hsh t b l + (t (b + l) - 96)) = _
    rw [show 27 * hsh t b l + t (b + l) - 96 = 27 * hsh t b l + (t (b + l) - 96) by omega]
section
variable {t : Nat → Nat} {k : Nat}
theorem lets {b : Nat} : ∀ (m l : Nat) (u v : Mem), b + l ≤ k → k < m + (b + l) → TP t k u v → u.1 17 5 = nI (b + l) → v.1 0 12 = nI (b + l) → v.1 0 11 = nI b → v.1 0 10 = 1 → (∀ j, j < l → 97 ≤ t (b + j) ∧ t (b + j) ≤ 122) → v.2 0 13 = wh t b l → ∃ l' u' v', l ≤ l' ∧ b + l' ≤ k ∧ (l < l' ∨ b + l = k ∨ le (t (b + l)) = false) ∧ F_X5_stepOverLetters_0 m u = some u' ∧ F_X7_advance_126 m v = F_X7_advance_207 fu v' ∧ WS u u' ∧ WA v v' ∧ u'.1 17 5 = nI (b + l') ∧ (∀ j, j ≠ 5 → u'.1 17 j = u.1 17 j) ∧ v'.1 0 12 = nI (b + l') ∧ v'.1 0 11 = nI b ∧ v'.1 0 10 = 1 ∧ (∀ j, j < l' → 97 ≤ t (b + j) ∧ t (b + j) ≤ 122) ∧ v'.2 0 13 = wh t b l' := by
  intro m
  induction m with
  | zero => intro l u v h1 h2; omega
  | succ m ih =>
    intro l u v h1 h2 hT hu hv h11 h10 hl hw
    have hk := hT.1
    have bm := at_M hT (j := b + l) (by omega)
    have bc := at_C hT (j := b + l) (by omega)
    unfold F_X5_stepOverLetters_0 F_X5_stepOverLetters_44 F_X7_advance_126 F_X7_advance_191
    rw [hT.2.1, hu, hv, h10, if_pos rfl, bm, bdI_s]
    by_cases e : b + l = k
    · have hb : ba t k (b + l) = -1 := if_neg (by omega)
      rw [if_pos (nI_le (by omega) (by omega)), hb, let_m1, bdI_s, ite00]
      exact ⟨l, u, v, Nat.le_refl l, h1, Or.inr (Or.inl e), rfl, rfl, WS.rf u, WA.rf v, hu, fun _ _ => rfl, hv, h11, h10, hl, hw⟩
    · have hb : ba t k (b + l) = nI (t (b + l)) := if_pos (by omega)
      have h256 := (hT.2.2.2 (b + l) (by omega)).2.2
      rw [if_neg (nI_ge (by omega) (by omega)), bc, bdI_s, hb, let_C u h256, bdI_s, let_M v h256, bdI_s]
      cases hle : le (t (b + l))
      · rw [if_pos (show bi false = 0 from rfl), if_pos (show bi false = 0 from rfl)]
        exact ⟨l, u, v, Nat.le_refl l, h1, Or.inr (Or.inr rfl), rfl, rfl, WS.rf u, WA.rf v, hu, fun _ _ => rfl, hv, h11, h10, hl, hw⟩
      · have hr : 97 ≤ t (b + l) ∧ t (b + l) ≤ 122 := of_decide_eq_true hle
        have hl2 : ∀ j, j < l + 1 → 97 ≤ t (b + j) ∧ t (b + j) ≤ 122 := fun j hj => by
          by_cases z : j = l
          · rw [z]; exact hr
          · exact hl j (by omega)
        have hs := wh_s hl2
        have key : ∀ y : Int64, y = wh t b (l + 1) → ∃ l' u' v', l ≤ l' ∧ b + l' ≤ k ∧ (l < l' ∨ b + l = k ∨ true = false) ∧ F_X5_stepOverLetters_0 m (sI u 17 5 (nI (b + l) + 1)) = some u' ∧ F_X7_advance_126 m (sI (sL v 0 13 y) 0 12 ((sL v 0 13 y).1 0 12 + 1)) = F_X7_advance_207 fu v' ∧ WS u u' ∧ WA v v' ∧ u'.1 17 5 = nI (b + l') ∧ (∀ j, j ≠ 5 → u'.1 17 j = u.1 17 j) ∧ v'.1 0 12 = nI (b + l') ∧ v'.1 0 11 = nI b ∧ v'.1 0 10 = 1 ∧ (∀ j, j < l' → 97 ≤ t (b + j) ∧ t (b + j) ≤ 122) ∧ v'.2 0 13 = wh t b l' := fun y hy => by
          rw [sL_1, hv, nI_1, show b + l + 1 = b + (l + 1) by omega]
          have w1 : WS u (sI u 17 5 (nI (b + (l + 1)))) := WS.set
          have w2 : WA v (sI (sL v 0 13 y) 0 12 (nI (b + (l + 1)))) := WA.setl.tr (WA.set (by omega))
          obtain ⟨l', u', v', a1, a2, -, a3, a4, a5, a6, a7, a8, a9⟩ := ih (l + 1) _ _ (by omega) (by omega) (hT.w w1 w2) sI_eq sI_eq (by rw [sI_k (by decide)]; exact h11) (by rw [sI_k (by decide)]; exact h10) hl2 (by rw [sI_2, sL_eq]; exact hy)
          exact ⟨l', u', v', by omega, a2, Or.inl (by omega), a3, a4, w1.tr a5, w2.tr a6, a7, fun j hj => (a8 j hj).trans (sI_k hj), a9⟩
        rw [if_neg (show ¬ bi true = 0 by decide), if_neg (show ¬ bi true = 0 by decide), hv, h11, pk_sub (by omega), show b + l - b = l by omega, bm, bdI_s, hb, hw, hu]
        by_cases e12 : 12 ≤ l
        · rw [if_pos (show (12 : Int32) ≤ nI l from nI_le (a := 12) e12 (by omega))]
          exact key _ (by rw [hs, if_pos e12])
        · rw [if_neg (show ¬ (12 : Int32) ≤ nI l from nI_ge (b := 12) (by omega) (by omega))]
          exact key _ (by rw [hs, if_neg e12])
/-! numbers -/
theorem digs : ∀ (m i w : Nat) (u v : Mem), i ≤ k → k < m + i → w ≤ 10000 → TP t k u v → u.1 17 5 = nI i → v.1 0 12 = nI i → v.1 0 10 = 2 → u.1 17 6 = nI w → v.1 0 14 = nI w → ∃ i' w' u' v', i ≤ i' ∧ i' ≤ k ∧ w' ≤ 10000 ∧ (i < i' ∨ i = k ∨ dg (t i) = false) ∧ F_X5_stepOverDigits_0 m u = some u' ∧ F_X7_advance_207 m v = some v' ∧ WS u u' ∧ WA v v' ∧ u'.1 17 5 = nI i' ∧ (∀ j, j ≠ 5 → j ≠ 6 → u'.1 17 j = u.1 17 j) ∧ v'.1 0 12 = nI i' ∧ v'.1 0 10 = 2 ∧ v'.1 0 11 = v.1 0 11 ∧ u'.1 17 6 = nI w' ∧ v'.1 0 14 = nI w' := by
  intro m
  induction m with
  | zero => intro i w u v h1 h2; omega
  | succ m ih =>
    intro i w u v h1 h2 hw hT hu hv h10 hu6 hv14
    have hk := hT.1
    have bm := at_M hT (j := i) (by omega)
    have bc := at_C hT (j := i) (by omega)
    unfold F_X5_stepOverDigits_0 F_X5_stepOverDigits_76 F_X7_advance_207 F_X7_advance_265 F_X7_advance_281
    rw [hT.2.1, hu, hv, h10, if_pos rfl, bm, bdI_s]
    by_cases e : i = k
    · have hb : ba t k i = -1 := if_neg (by omega)
      rw [if_pos (nI_le (by omega) (by omega)), hb, dig_m1, bdI_s, ite00]
      exact ⟨i, w, u, v, Nat.le_refl i, h1, hw, Or.inr (Or.inl e), rfl, rfl, WS.rf u, WA.rf v, hu, fun _ _ _ => rfl, hv, h10, rfl, hu6, hv14⟩
    · have hb : ba t k i = nI (t i) := if_pos (by omega)
      have h256 := (hT.2.2.2 i (by omega)).2.2
      rw [if_neg (nI_ge (by omega) (by omega)), bc, bdI_s, hb, dig_C u h256, bdI_s, dig_M v h256, bdI_s]
      cases hle : dg (t i)
      · rw [if_pos (show bi false = 0 from rfl), if_pos (show bi false = 0 from rfl)]
        exact ⟨i, w, u, v, Nat.le_refl i, h1, hw, Or.inr (Or.inr rfl), rfl, rfl, WS.rf u, WA.rf v, hu, fun _ _ _ => rfl, hv, h10, rfl, hu6, hv14⟩
      · have hr : 48 ≤ t i ∧ t i ≤ 57 := of_decide_eq_true hle
        have ec : 10 * nI w + nI (t i) - 48 = nI (10 * w + t i - 48) := by
          rw [show (10 : Int32) = nI 10 from rfl, show (48 : Int32) = nI 48 from rfl, pk_mul, nI_add, pk_sub (by omega)]
        have key : ∀ x : Nat, x ≤ 10000 → ∃ i' w' u' v', i ≤ i' ∧ i' ≤ k ∧ w' ≤ 10000 ∧ (i < i' ∨ i = k ∨ true = false) ∧ F_X5_stepOverDigits_0 m (sI (sI u 17 6 (nI x)) 17 5 ((sI u 17 6 (nI x)).1 17 5 + 1)) = some u' ∧ F_X7_advance_207 m (sI (sI v 0 14 (nI x)) 0 12 ((sI v 0 14 (nI x)).1 0 12 + 1)) = some v' ∧ WS u u' ∧ WA v v' ∧ u'.1 17 5 = nI i' ∧ (∀ j, j ≠ 5 → j ≠ 6 → u'.1 17 j = u.1 17 j) ∧ v'.1 0 12 = nI i' ∧ v'.1 0 10 = 2 ∧ v'.1 0 11 = v.1 0 11 ∧ u'.1 17 6 = nI w' ∧ v'.1 0 14 = nI w' := fun x hx => by
          rw [sI_k (show (5 : Nat) ≠ 6 by decide), sI_k (show (12 : Nat) ≠ 14 by decide), hu, hv, nI_1]
          have w1 : WS u (sI (sI u 17 6 (nI x)) 17 5 (nI (i + 1))) := WS.set.tr WS.set
          have w2 : WA v (sI (sI v 0 14 (nI x)) 0 12 (nI (i + 1))) := (WA.set (by omega)).tr (WA.set (by omega))
          obtain ⟨i', w2', u', v', a1, a2, a3, -, a4, a5, a6, a7, a8, a9, a10, a11, a12, a13⟩ := ih (i + 1) x _ _ (by omega) (by omega) hx (hT.w w1 w2) sI_eq sI_eq (by rw [sI_k (by decide), sI_k (by decide)]; exact h10) (by rw [sI_k (by decide), sI_eq]) (by rw [sI_k (by decide), sI_eq])
          exact ⟨i', w2', u', v', by omega, a2, a3, Or.inl (by omega), a4, a5, w1.tr a6, w2.tr a7, a8, fun j h5 h6 => by rw [a9 j h5 h6, sI_k h5, sI_k h6], a10, a11, by rw [a12, sI_k (by decide), sI_k (by decide)], a13⟩
        rw [if_neg (show ¬ bi true = 0 by decide), if_neg (show ¬ bi true = 0 by decide), hu, bc, bdI_s, hb, bdV_s, hv14, hv, bm, bdI_s, hb, hu6, ec]
        by_cases e9 : w ≤ 999
        · rw [if_pos (show nI w ≤ (999 : Int32) from nI_le (b := 999) e9 (by omega)), if_neg (show ¬ (10000 : Int32) < nI (10 * w + t i - 48) from nI_nlt (a := 10000) (by omega) (by omega))]
          exact key _ (by omega)
        · rw [if_neg (show ¬ nI w ≤ (999 : Int32) from nI_ge (a := 999) (by omega) (by omega))]
          by_cases e10 : 10000 < 10 * w + t i - 48
          · rw [if_pos (show (10000 : Int32) < nI (10 * w + t i - 48) from nI_lt (a := 10000) e10 (by omega))]
            exact key 10000 (by omega)
          · rw [if_neg (show ¬ (10000 : Int32) < nI (10 * w + t i - 48) from nI_nlt (a := 10000) (by omega) (by omega)), show 10 * w + t i - 48 = 10000 by omega]
            exact key 10000 (by omega)
/-! one token -/
def TK (t : Nat → Nat) (k b e : Nat) (u v : Mem) : Prop := b ≤ e ∧ e ≤ k ∧ u.1 17 4 = nI b ∧ v.1 0 11 = nI b ∧ u.1 17 5 = nI e ∧ v.1 0 12 = nI e ∧ ((u.1 17 3 = 0 ∧ v.1 0 10 = 0) ∨ (u.1 17 3 = 1 ∧ v.1 0 10 = 1 ∧ b < e ∧ (∀ j, j < e - b → 97 ≤ t (b + j) ∧ t (b + j) ≤ 122) ∧ v.2 0 13 = wh t b (e - b)) ∨ (u.1 17 3 = 2 ∧ v.1 0 10 = 2 ∧ b < e ∧ ∃ w, w ≤ 10000 ∧ u.1 17 6 = nI w ∧ v.1 0 14 = nI w) ∨ (u.1 17 3 = 3 ∧ v.1 0 10 = 3 ∧ b < e ∧ v.1 0 14 = 59) ∨ (u.1 17 3 = 4 ∧ v.1 0 10 = 3 ∧ b < e ∧ v.1 0 14 ≠ 59))
def advR (v : Mem) : Option Mem := bdI (F_X7_byteAt (sI v 0 12 (v.1 0 11)) ((sI v 0 12 (v.1 0 11)).1 0 11)) fun r32 u31 => if 0 ≤ r32 then (bdI (F_X7_isLetter u31 r32) fun r36 u35 => if r36 = 0 then (bdI (F_X7_isDigit u35 r32) fun r40 u39 => if r40 = 0 then F_X7_advance_83 u39 r32 3 else F_X7_advance_83 u39 r32 2) else F_X7_advance_83 u35 r32 1) else F_X7_advance_83 u31 r32 0
theorem blanks : ∀ (m i : Nat) (u v : Mem), i ≤ k → k < m + i → TP t k u v → u.1 17 4 = nI i → v.1 0 11 = nI i → ∃ i' u' v', i ≤ i' ∧ i' ≤ k ∧ F_X5_step_8 m u = F_X5_step_51 u' ∧ F_X7_advance_8 m v = advR v' ∧ WS u u' ∧ WA v v' ∧ u'.1 17 4 = nI i' ∧ v'.1 0 11 = nI i' := by
  intro m
  induction m with
  | zero => intro i u v h1 h2; omega
  | succ m ih =>
    intro i u v h1 h2 hT hu hv
    have hk := hT.1
    have bm := at_M hT (j := i) (by omega)
    have bc := at_C hT (j := i) (by omega)
    unfold F_X5_step_8 F_X7_advance_8
    rw [hT.2.1, hu, hv, bm, bdI_s]
    by_cases e : i = k
    · have hb : ba t k i = -1 := if_neg (by omega)
      rw [if_pos (nI_le (by omega) (by omega)), hb, if_neg (by decide)]
      refine ⟨i, u, v, Nat.le_refl i, h1, rfl, ?_, WS.rf u, WA.rf v, hu, hv⟩
      unfold advR; rw [hv]
    · have hb : ba t k i = nI (t i) := if_pos (by omega)
      rw [if_neg (nI_ge (by omega) (by omega)), bc, bdI_s, hb]
      by_cases e32 : nI (t i) = 32
      · rw [if_pos e32, if_pos e32, hu, hv, nI_1]
        have w1 : WS u (sI u 17 4 (nI (i + 1))) := WS.set
        have w2 : WA v (sI v 0 11 (nI (i + 1))) := WA.set (by omega)
        obtain ⟨i', u', v', a1, a2, a3, a4, a5, a6, a7⟩ := ih (i + 1) _ _ (by omega) (by omega) (hT.w w1 w2) sI_eq sI_eq
        exact ⟨i', u', v', by omega, a2, a3, a4, w1.tr a5, w2.tr a6, a7⟩
      · rw [if_neg e32, if_neg e32]
        refine ⟨i, u, v, Nat.le_refl i, h1, rfl, ?_, WS.rf u, WA.rf v, hu, hv⟩
        unfold advR; rw [hv]
theorem a207 {v : Mem} (h : ¬ v.1 0 10 = 2) : F_X7_advance_207 fu v = some v := by
  unfold fu F_X7_advance_207 F_X7_advance_281
  rw [if_neg h]
theorem a126 {v : Mem} (h : ¬ v.1 0 10 = 1) : F_X7_advance_126 fu v = F_X7_advance_207 fu v := by
  unfold fu F_X7_advance_126
  rw [if_neg h]; rfl
theorem step_both {e : Nat} {u v : Mem} (hT : TP t k u v) (he : e ≤ k) (hu : u.1 17 5 = nI e) (hv : v.1 0 12 = nI e) : ∃ b e' u' v', F_X5_step u = some u' ∧ F_X7_advance v = some v' ∧ WS u u' ∧ WA v v' ∧ e ≤ b ∧ TP t k u' v' ∧ TK t k b e' u' v' := by
  have hk := hT.1
  have w1 : WS u (sI u 17 4 (nI e)) := WS.set
  have w2 : WA v (sI v 0 11 (nI e)) := WA.set (by omega)
  obtain ⟨b, u1, v1, a1, a2, a3, a4, a5, a6, a7, a8⟩ := blanks (k := k) (t := t) fu e _ _ he (by unfold fu; omega) (hT.w w1 w2) sI_eq sI_eq
  have hT1 := hT.w (w1.tr a5) (w2.tr a6)
  unfold F_X5_step F_X7_advance
  rw [hu, hv, a3, a4]
  have wu : WS u u1 := w1.tr a5
  have wv : WA v v1 := w2.tr a6
  have wu2 : WS u (sI (sI u1 17 5 (nI b)) 17 6 0) := wu.tr (WS.set.tr WS.set)
  have wv2 : WA v (sI v1 0 12 (nI b)) := wv.tr (WA.set (by omega))
  have hT2 := hT.w wu2 wv2
  have bc := at_C hT2 (j := b) (by omega)
  have bm := at_M hT2 (j := b) (by omega)
  unfold F_X5_step_51 F_X5_step_152 F_X5_step_139 F_X5_step_152 advR
  rw [a7, a8, sI_k (show (4 : Nat) ≠ 6 by decide), sI_k (show (4 : Nat) ≠ 5 by decide), a7, bc, bdI_s, sI_k (show (11 : Nat) ≠ 12 by decide), a8, bm, bdI_s]
  unfold F_X7_advance_83 F_X7_advance_105
  by_cases ek : b = k
  · have hb : ba t k b = -1 := if_neg (by omega)
    rw [hb, if_pos rfl, if_neg (show ¬ (0 : Int32) ≤ -1 by decide), sL_1, sI_eq, if_neg (by decide), sI_k (show (10 : Nat) ≠ 14 by decide), sL_1, sI_eq, if_neg (by decide)]
    have wv3 : WA v (sI (sL (sI (sI v1 0 12 (nI b)) 0 10 0) 0 13 0) 0 14 (-1)) := wv2.tr ((WA.set (by omega)).tr (WA.setl.tr (WA.set (by omega))))
    have s0 : (sI (sL (sI (sI v1 0 12 (nI b)) 0 10 0) 0 13 0) 0 14 (-1)).1 0 10 = 0 := by rw [sI_k (by decide), sL_1, sI_eq]
    rw [a126 (by rw [s0]; decide), a207 (by rw [s0]; decide)]
    refine ⟨b, b, _, _, rfl, rfl, wu2.tr WS.set, wv3, a1, hT.w (wu2.tr WS.set) wv3, Nat.le_refl b, a2, by rw [sI_k (by decide), sI_k (by decide), sI_k (by decide)]; exact a7, by rw [sI_k (by decide), sL_1, sI_k (by decide), sI_k (by decide)]; exact a8, by rw [sI_k (by decide), sI_k (by decide), sI_eq], by rw [sI_k (by decide), sL_1, sI_k (by decide), sI_eq], Or.inl ⟨sI_eq, s0⟩⟩
  · have hb : ba t k b = nI (t b) := if_pos (by omega)
    have h256 := (hT.2.2.2 b (by omega)).2.2
    have nm1 : ¬ nI (t b) = -1 := fun z => by
      have := nI_pos (n := t b) (by omega)
      rw [z] at this
      exact this (by decide)
    rw [hb, if_neg nm1, if_pos (nI_pos' (show t b < 2 ^ 31 by omega)), let_C _ h256, bdI_s, let_M _ h256, bdI_s]
    cases hle : le (t b)
    · rw [if_pos (show bi false = 0 from rfl), if_pos (show bi false = 0 from rfl), dig_C _ h256, bdI_s, dig_M _ h256, bdI_s]
      cases hdg : dg (t b)
      · rw [if_pos (show bi false = 0 from rfl), if_pos (show bi false = 0 from rfl), sL_1, sI_eq, if_neg (show ¬ (3 : Int32) = 2 by decide), sI_k (show (10 : Nat) ≠ 14 by decide), sL_1, sI_eq, if_pos rfl]
        have e12 : (sI (sL (sI (sI v1 0 12 (nI b)) 0 10 3) 0 13 0) 0 14 (nI (t b))).1 0 12 = nI b := by rw [sI_k (by decide), sL_1, sI_k (by decide), sI_eq]
        rw [e12, nI_1]
        have wv3 : WA v (sI (sI (sL (sI (sI v1 0 12 (nI b)) 0 10 3) 0 13 0) 0 14 (nI (t b))) 0 12 (nI (b + 1))) := wv2.tr ((WA.set (by omega)).tr (WA.setl.tr ((WA.set (by omega)).tr (WA.set (by omega)))))
        have s0 : (sI (sI (sL (sI (sI v1 0 12 (nI b)) 0 10 3) 0 13 0) 0 14 (nI (t b))) 0 12 (nI (b + 1))).1 0 10 = 3 := by rw [sI_k (by decide), sI_k (by decide), sL_1, sI_eq]
        have s14 : (sI (sI (sL (sI (sI v1 0 12 (nI b)) 0 10 3) 0 13 0) 0 14 (nI (t b))) 0 12 (nI (b + 1))).1 0 14 = nI (t b) := by rw [sI_k (by decide), sI_eq]
        have s11 : (sI (sI (sL (sI (sI v1 0 12 (nI b)) 0 10 3) 0 13 0) 0 14 (nI (t b))) 0 12 (nI (b + 1))).1 0 11 = nI b := by rw [sI_k (by decide), sI_k (by decide), sL_1, sI_k (by decide), sI_k (by decide)]; exact a8
        rw [a126 (by rw [s0]; decide), a207 (by rw [s0]; decide)]
        have e5 : ∀ y : Int32, (sI (sI (sI u1 17 5 (nI b)) 17 6 0) 17 3 y).1 17 5 = nI b := fun y => by rw [sI_k (by decide), sI_k (by decide), sI_eq]
        have fin : ∀ y : Int32, ((y = 3 ∧ nI (t b) = 59) ∨ (y = 4 ∧ nI (t b) ≠ 59)) → ∃ b' e' u' v', some (sI (sI (sI (sI u1 17 5 (nI b)) 17 6 0) 17 3 y) 17 5 ((sI (sI (sI u1 17 5 (nI b)) 17 6 0) 17 3 y).1 17 5 + 1)) = some u' ∧ some (sI (sI (sL (sI (sI v1 0 12 (nI b)) 0 10 3) 0 13 0) 0 14 (nI (t b))) 0 12 (nI (b + 1))) = some v' ∧ WS u u' ∧ WA v v' ∧ e ≤ b' ∧ TP t k u' v' ∧ TK t k b' e' u' v' := fun y hy => by
          rw [e5, nI_1]
          refine ⟨b, b + 1, _, _, rfl, rfl, wu2.tr (WS.set.tr WS.set), wv3, a1, hT.w (wu2.tr (WS.set.tr WS.set)) wv3, by omega, by omega, by rw [sI_k (by decide), sI_k (by decide), sI_k (by decide), sI_k (by decide)]; exact a7, s11, sI_eq, sI_eq, Or.inr (Or.inr (Or.inr ?_))⟩
          rcases hy with ⟨y1, y2⟩ | ⟨y1, y2⟩
          · exact Or.inl ⟨by rw [sI_k (by decide), sI_eq, y1], s0, by omega, by rw [s14]; exact y2⟩
          · exact Or.inr ⟨by rw [sI_k (by decide), sI_eq, y1], s0, by omega, by rw [s14]; exact y2⟩
        by_cases e59 : nI (t b) = 59
        · rw [if_pos e59]; exact fin 3 (Or.inl ⟨rfl, e59⟩)
        · rw [if_neg e59]; exact fin 4 (Or.inr ⟨rfl, e59⟩)
      · rw [if_neg (show ¬ bi true = 0 by decide), if_neg (show ¬ bi true = 0 by decide), sL_1, sI_eq, if_pos rfl, sI_k (show (10 : Nat) ≠ 14 by decide), sL_1, sI_eq, if_neg (show ¬ (2 : Int32) = 3 by decide)]
        have wv3 : WA v (sI (sL (sI (sI v1 0 12 (nI b)) 0 10 2) 0 13 0) 0 14 0) := wv2.tr ((WA.set (by omega)).tr (WA.setl.tr (WA.set (by omega))))
        have s0 : (sI (sL (sI (sI v1 0 12 (nI b)) 0 10 2) 0 13 0) 0 14 0).1 0 10 = 2 := by rw [sI_k (by decide), sL_1, sI_eq]
        rw [a126 (by rw [s0]; decide)]
        have wu3 := wu2.tr (WS.set (j := 3) (x := 2))
        obtain ⟨e', w, u2, v2, c1, c2, c3, c4, c5, c6, c7, c8, c9, c10, c11, c12, c13, c14, c15⟩ := digs (t := t) (k := k) fu b 0 (sI (sI (sI u1 17 5 (nI b)) 17 6 0) 17 3 2) (sI (sL (sI (sI v1 0 12 (nI b)) 0 10 2) 0 13 0) 0 14 0) a2 (by unfold fu; omega) (by omega) (hT.w wu3 wv3) (by rw [sI_k (by decide), sI_k (by decide), sI_eq]) (by rw [sI_k (by decide), sL_1, sI_k (by decide), sI_eq]) s0 (by rw [sI_k (by decide), sI_eq]; rfl) (by rw [sI_eq]; rfl)
        have hlt : b < e' := by
          rcases c4 with z | z | z
          · exact z
          · exact absurd z ek
          · rw [hdg] at z; exact absurd z (by decide)
        unfold F_X5_stepOverDigits
        rw [c5, bdV_s, c6]
        exact ⟨b, e', u2, v2, rfl, rfl, wu3.tr c7, wv3.tr c8, a1, hT.w (wu3.tr c7) (wv3.tr c8), c1, c2, by rw [c10 4 (by decide) (by decide), sI_k (by decide), sI_k (by decide), sI_k (by decide)]; exact a7, by rw [c13, sI_k (by decide), sL_1, sI_k (by decide), sI_k (by decide)]; exact a8, c9, c11, Or.inr (Or.inr (Or.inl ⟨by rw [c10 3 (by decide) (by decide), sI_eq], c12, hlt, w, c3, c14, c15⟩))⟩
    · rw [if_neg (show ¬ bi true = 0 by decide), if_neg (show ¬ bi true = 0 by decide), sL_1, sI_eq, if_neg (show ¬ (1 : Int32) = 2 by decide), sI_k (show (10 : Nat) ≠ 14 by decide), sL_1, sI_eq, if_neg (show ¬ (1 : Int32) = 3 by decide)]
      have wv3 : WA v (sI (sL (sI (sI v1 0 12 (nI b)) 0 10 1) 0 13 0) 0 14 (nI (t b))) := wv2.tr ((WA.set (by omega)).tr (WA.setl.tr (WA.set (by omega))))
      have s0 : (sI (sL (sI (sI v1 0 12 (nI b)) 0 10 1) 0 13 0) 0 14 (nI (t b))).1 0 10 = 1 := by rw [sI_k (by decide), sL_1, sI_eq]
      have wu3 := wu2.tr (WS.set (j := 3) (x := 1))
      obtain ⟨l, u2, v2, c1, c2, c3, c4, c5, c6, c7, c8, c9, c10, c11, c12, c13, c14⟩ := lets (t := t) (k := k) (b := b) fu 0 (sI (sI (sI u1 17 5 (nI b)) 17 6 0) 17 3 1) (sI (sL (sI (sI v1 0 12 (nI b)) 0 10 1) 0 13 0) 0 14 (nI (t b))) a2 (by unfold fu; omega) (hT.w wu3 wv3) (by rw [sI_k (by decide), sI_k (by decide), sI_eq]; rfl) (by rw [sI_k (by decide), sL_1, sI_k (by decide), sI_eq]; rfl) (by rw [sI_k (by decide), sL_1, sI_k (by decide), sI_k (by decide)]; exact a8) s0 (fun j hj => absurd hj (by omega)) (by rw [sI_2, sL_eq]; rfl)
      have hlt : 0 < l := by
        rcases c3 with z | z | z
        · exact z
        · exact absurd z ek
        · rw [Nat.add_zero, hle] at z; exact absurd z (by decide)
      unfold F_X5_stepOverLetters
      rw [c4, bdV_s, c5, a207 (by rw [c12]; decide)]
      exact ⟨b, b + l, u2, v2, rfl, rfl, wu3.tr c6, wv3.tr c7, a1, hT.w (wu3.tr c6) (wv3.tr c7), by omega, c2, by rw [c9 4 (by decide), sI_k (by decide), sI_k (by decide), sI_k (by decide)]; exact a7, c11, c8, c10, Or.inr (Or.inl ⟨by rw [c9 3 (by decide), sI_eq], c12, by omega, by rw [show b + l - b = l by omega]; exact c13, by rw [show b + l - b = l by omega]; exact c14⟩)⟩
end
