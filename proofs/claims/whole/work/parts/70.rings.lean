/-! PURE: rings, loners, pairs -/
def al (f : Nat → Bool) : Nat → Bool
  | 0 => true
  | k + 1 => al f k && f k
theorem al_s (f : Nat → Bool) (k : Nat) : al f (k + 1) = (al f k && f k) := rfl
theorem al_iff {f : Nat → Bool} : ∀ n, al f n = true ↔ ∀ q, q < n → f q = true := by
  intro n
  induction n with
  | zero => exact ⟨fun _ q h => absurd h (by omega), fun _ => rfl⟩
  | succ n ih =>
    rw [al_s, Bool.and_eq_true, ih]
    constructor
    · rintro ⟨a, b⟩ q hq
      by_cases e : q = n
      · rw [e]; exact b
      · exact a q (by omega)
    · intro h; exact ⟨fun q hq => h q (by omega), h n (by omega)⟩
theorem bool_iff {a b : Bool} (h : a = true ↔ b = true) : a = b := by cases a <;> cases b <;> simp_all
def RG (on : Nat → Nat → Bool) (n s : Nat) : Bool := al (fun p => al (fun q => !s.testBit p || !s.testBit q || decide (p = q) || on p q) n) n
theorem RG_iff {on : Nat → Nat → Bool} {n s : Nat} : RG on n s = true ↔ ∀ p q, p < n → q < n → s.testBit p = true → s.testBit q = true → p ≠ q → on p q = true := by
  unfold RG
  rw [al_iff]
  constructor
  · intro h p q hp hq h1 h2 hne
    have := (al_iff n).mp (h p hp) q hq
    rw [h1, h2, decide_eq_false hne] at this
    simpa using this
  · intro h p hp
    rw [al_iff]
    intro q hq
    cases h1 : s.testBit p
    · rfl
    · cases h2 : s.testBit q
      · simp
      · by_cases e : p = q
        · simp [e]
        · simp [h p q hp hq h1 h2 e]
section
variable {n : Nat} {X : Nat → PV} {sl : Int32}
/-! the class -/
theorem ir_2 {u : Mem} {on : Nat → Nat → Bool} {f : Nat → Nat → Bool} {s : Nat} (hn : n ≤ 12) (h4 : u.1 4 1 = nI n) (hL : LM u f (EF n on)) (hs : s < 2 ^ n) (hs2 : s < 4096) : ∀ m k i, i + k = n → k < m → (∀ p q, p < i → q < n → s.testBit p = true → s.testBit q = true → p ≠ q → on p q = true) → F_X2_isRing_2 m u (nI s) (nI i) = some (bi (RG on n s), u) := by
  intro m
  induction m with
  | zero => intro k i _ h; exact absurd h (by omega)
  | succ m ih =>
    intro k i h1 hk hpre
    unfold F_X2_isRing_2 F_X2_isRing_40
    rw [h4]
    cases k with
    | zero =>
      rw [if_pos (nI_le (by omega) (by omega)), RG_iff.mpr (fun p q hp hq => hpre p q (by omega) hq)]; rfl
    | succ k =>
      have hi : i < 12 := by omega
      rw [if_neg (nI_ge (by omega) (by omega)), isIn_C hs2 hi, bdI_s, nI_1]
      cases hb : s.testBit i
      · rw [if_pos (show bi false = 0 from rfl)]
        exact ih k (i + 1) (by omega) (by omega) (fun p q hp hq g1 g2 hne => by
          by_cases e : p = i
          · rw [e, hb] at g1; exact absurd g1 (by decide)
          · exact hpre p q (by omega) hq g1 g2 hne)
      · rw [if_neg (show ¬ bi true = 0 by decide), wo_C hi, bdI_s, gd_nI _ hi (by omega), cl_nI hi]
        obtain ⟨x, hx, ex, hxt⟩ := (hL i hi).2
        have hd := Nat.lt_of_le_of_lt (dif_le s (2 ^ i)) hs2
        rw [ex, dif_I]
        have hz : nI (dif (dif s (2 ^ i)) x) = 0 ↔ ∀ q, q < 12 → q ≠ i → s.testBit q = true → EF n on i q = true := by
          rw [nI0 (Nat.lt_of_le_of_lt (dif_le _ _) hd), zero_t12 (Nat.lt_of_le_of_lt (dif_le _ _) hd)]
          constructor
          · intro h q hq hne hsq
            have := h q hq
            rw [dif_t hd, dif_t hs2, Nat.testBit_two_pow, hsq, decide_eq_false (fun e => hne e.symm), hxt q hq] at this
            simpa using this
          · intro h q hq
            rw [dif_t hd, dif_t hs2, Nat.testBit_two_pow, hxt q hq]
            cases hsq : s.testBit q
            · rfl
            · by_cases e : i = q
              · rw [decide_eq_true e]; rfl
              · rw [h q hq (fun z => e z.symm) hsq, decide_eq_false e]; rfl
        by_cases g : nI (dif (dif s (2 ^ i)) x) = 0
        · rw [if_pos g]
          refine ih k (i + 1) (by omega) (by omega) (fun p q hp hq g1 g2 hne => ?_)
          by_cases e : p = i
          · subst e
            have := hz.mp g q (by omega) (fun z => hne z.symm) g2
            unfold EF at this
            rw [Bool.and_eq_true] at this
            exact this.2
          · exact hpre p q (by omega) hq g1 g2 hne
        · rw [if_neg g]
          have : RG on n s = false := by
            cases hr : RG on n s
            · rfl
            · refine absurd (hz.mpr (fun q hq hne hsq => ?_)) g
              have hqn : q < n := by
                by_cases hqn : q < n
                · exact hqn
                · rw [tb_out hs (by omega)] at hsq; exact absurd hsq (by decide)
              unfold EF
              rw [RG_iff.mp hr i q (by omega) hqn hb hsq (fun z => hne z.symm), decide_eq_true ⟨fun z => hne z.symm, by omega, hqn⟩]; rfl
          rw [this]; rfl
theorem isRing_C {u : Mem} {on : Nat → Nat → Bool} {f : Nat → Nat → Bool} {s : Nat} (hn : n ≤ 12) (h4 : u.1 4 1 = nI n) (hL : LM u f (EF n on)) (hs : s < 2 ^ n) (hs2 : s < 4096) : F_X2_isRing u (nI s) = some (bi (RG on n s), u) := ir_2 hn h4 hL hs hs2 fu n 0 (by omega) (by unfold fu; omega) (fun _ _ h => absurd h (by omega))
/-! the reference -/
theorem wa_5 {v : Mem} {p t : Nat} (hX : MX v n X sl) (hC : CAN v n X sl) (hp : p < n) (ht : t < 4096) : ∀ m k i, i + k = n → k < m → F_X7_isWithAll_5 m v (nI p) (nI t) (bi (al (fun q => !t.testBit q || decide (q = p) || onW X sl p q) i)) (nI i) = some (bi (al (fun q => !t.testBit q || decide (q = p) || onW X sl p q) n), v) := by
  intro m
  induction m with
  | zero => intro k i _ h; exact absurd h (by omega)
  | succ m ih =>
    intro k i h1 hk
    have hn := hX.1
    unfold F_X7_isWithAll_5 F_X7_isWithAll_49 F_X7_isWithAll_45 F_X7_isWithAll_50
    rw [gd_c0, cl_0, hX.2.1]
    cases k with
    | zero =>
      have e : i = n := by omega
      subst e
      rw [if_pos (nI_le (Nat.le_refl i) (by omega)), gz_bi]
    | succ k =>
      rw [if_neg (nI_ge (by omega) (by omega)), nI_1]
      have h := ih k (i + 1) (by omega) (by omega)
      rw [al_s] at h
      cases ha : al (fun q => !t.testBit q || decide (q = p) || onW X sl p q) i
      · rw [ha, Bool.false_and] at h
        rw [if_pos (show bi false = 0 from rfl)]; exact h
      · rw [ha, Bool.true_and] at h
        rw [if_neg (show ¬ bi true = 0 by decide), has_M ht (show i < 12 by omega), bdI_s]
        cases hb : t.testBit i
        · rw [hb] at h
          rw [if_pos (show bi false = 0 from rfl)]; exact h
        · rw [hb, Bool.not_true, Bool.false_or] at h
          rw [if_neg (show ¬ bi true = 0 by decide)]
          by_cases e : i = p
          · rw [if_pos (congrArg nI e)]
            rw [decide_eq_true e, Bool.true_or] at h; exact h
          · rw [if_neg (fun z => e ((nI_eq (by omega) (by omega)).mp z)), one_M hX hC hp (show i < n by omega) (fun z => e z.symm), bdI_s]
            rw [decide_eq_false e, Bool.false_or] at h
            cases ho : onW X sl p i
            · rw [ho] at h; rw [if_pos (show bi false = 0 from rfl)]; exact h
            · rw [ho] at h; rw [if_neg (show ¬ bi true = 0 by decide)]; exact h
theorem low_2 {v : Mem} {s : Nat} (hs : s < 4096) (h0 : s ≠ 0) : ∀ m i, i ≤ 12 → 12 - i < m → (∀ q, q < i → s.testBit q = false) → ∃ p, p < 12 ∧ s.testBit p = true ∧ (∀ q, q < p → s.testBit q = false) ∧ F_X7_lowest_2 m v (nI s) (nI i) = some (nI p, v) := by
  intro m
  induction m with
  | zero => intro i _ h; exact absurd h (by omega)
  | succ m ih =>
    intro i h12 hm hq
    by_cases e : i = 12
    · subst e; exact absurd ((zero_t12 hs).mpr hq) h0
    · unfold F_X7_lowest_2
      rw [has_M hs (show i < 12 by omega), bdI_s]
      cases hb : s.testBit i
      · rw [if_pos (show bi false = 0 from rfl), nI_1]
        exact ih (i + 1) (by omega) (by omega) (fun q hq2 => by
          by_cases z : q = i
          · rw [z, hb]
          · exact hq q (by omega))
      · rw [if_neg (show ¬ bi true = 0 by decide)]
        exact ⟨i, by omega, hb, hq, rfl⟩
theorem low_b : ∀ p s, s.testBit p = true → (∀ q, q < p → s.testBit q = false) → ∀ q, (s &&& (s - 1)).testBit q = (s.testBit q && decide (q ≠ p)) := by
  intro p
  induction p with
  | zero =>
    intro s hs _ q
    rw [Nat.testBit_zero, decide_eq_true_eq] at hs
    rw [Nat.testBit_and]
    cases q with
    | zero => rw [Nat.testBit_zero, Nat.testBit_zero, decide_eq_false (show ¬ (s - 1) % 2 = 1 by omega)]; simp
    | succ q => rw [Nat.testBit_succ, Nat.testBit_succ, show (s - 1) / 2 = s / 2 by omega, Bool.and_self]; simp
  | succ p ih =>
    intro s hs hl q
    have h0 := hl 0 (by omega)
    rw [Nat.testBit_zero, decide_eq_false_iff_not] at h0
    have hpos : s / 2 ≠ 0 := fun z => by
      rw [Nat.testBit_succ, z, Nat.zero_testBit] at hs
      exact absurd hs (by decide)
    rw [Nat.testBit_succ] at hs
    have h := ih (s / 2) hs (fun q hq => by
      have := hl (q + 1) (by omega)
      rw [Nat.testBit_succ] at this
      exact this)
    rw [Nat.testBit_and]
    cases q with
    | zero => rw [Nat.testBit_zero, decide_eq_false h0]; rfl
    | succ q =>
      have := h q
      rw [Nat.testBit_and] at this
      rw [Nat.testBit_succ, Nat.testBit_succ, show (s - 1) / 2 = s / 2 - 1 by omega, this]
      exact congrArg (Nat.testBit (s / 2) q && ·) (decide_eq_decide.mpr (show q ≠ p ↔ q + 1 ≠ p + 1 by omega))
theorem RG_low {on : Nat → Nat → Bool} (hsym : ∀ p q, p ≠ q → on p q = on q p) {s p : Nat} (hp : s.testBit p = true) (hl : ∀ q, q < p → s.testBit q = false) (hpn : p < n) : RG on n s = (RG on n (s &&& (s - 1)) && al (fun q => !(s &&& (s - 1)).testBit q || decide (q = p) || on p q) n) := by
  refine bool_iff ?_
  have hb := low_b p s hp hl
  rw [Bool.and_eq_true, RG_iff, RG_iff, al_iff]
  constructor
  · intro h
    refine ⟨fun a b ha hb2 h1 h2 hne => ?_, fun q hq => ?_⟩
    · rw [hb, Bool.and_eq_true] at h1 h2
      exact h a b ha hb2 h1.1 h2.1 hne
    · rw [hb]
      cases hq2 : s.testBit q
      · rfl
      · by_cases e : q = p
        · simp [e]
        · simp [e, h p q hpn hq hp hq2 (fun z => e z.symm)]
  · rintro ⟨h1, h2⟩ a b ha hb2 g1 g2 hne
    have key : ∀ c, c < n → s.testBit c = true → c ≠ p → on p c = true := fun c hc gc hcp => by
      have := h2 c hc
      rw [hb, gc, decide_eq_true hcp, decide_eq_false hcp] at this
      simpa using this
    by_cases ea : a = p
    · subst ea; exact key b hb2 g2 (fun z => hne z.symm)
    · by_cases eb : b = p
      · subst eb; rw [hsym a b hne]; exact key a ha g1 hne
      · exact h1 a b ha hb2 (by rw [hb, g1, decide_eq_true ea]; rfl) (by rw [hb, g2, decide_eq_true eb]; rfl) hne
def RT (v : Mem) (n : Nat) (on : Nat → Nat → Bool) : Prop := ∀ t, t < 2 ^ n → v.1 6 t = bi (RG on n t)
def W6 (v v2 : Mem) : Prop := v2.2 = v.2 ∧ ∀ c, c ≠ 6 → v2.1 c = v.1 c
theorem fr_13 : ∀ (m j s : Nat) (v : Mem), s + j = 2 ^ n → 1 ≤ s → j < m → MX v n X sl → CAN v n X sl → (∀ t, t < s → v.1 6 t = bi (RG (onW X sl) n t)) → ∃ v', F_X7_findRings_13 m v (nI s) = some v' ∧ W6 v v' ∧ RT v' n (onW X sl) := by
  intro m
  induction m with
  | zero => intro j s v _ _ h; exact absurd h (by omega)
  | succ m ih =>
    intro j s v h1 hs1 hj hX hC hR
    have hn := hX.1
    have hp2 := p2_le (p := n) (by omega)
    unfold F_X7_findRings_13
    rw [gd_c0, cl_0, hX.2.1, bit_I n (by omega)]
    cases j with
    | zero => exact ⟨v, by rw [if_pos (nI_le (by omega) (by omega))], ⟨rfl, fun _ _ => rfl⟩, fun t ht => hR t (by omega)⟩
    | succ j =>
      have hsn : s < 2 ^ n := by omega
      have hs : s < 4096 := by omega
      rw [if_neg (nI_ge hsn (by omega))]
      obtain ⟨p, hp, hpt, hpl, ep⟩ := low_2 (v := v) hs (by omega) fu 0 (by omega) (by unfold fu; omega) (fun _ h => absurd h (by omega))
      have z : nI 0 = (0 : Int32) := rfl
      rw [z] at ep
      have hpn : p < n := by
        by_cases h : p < n
        · exact h
        · rw [tb_out hsn (by omega)] at hpt; exact absurd hpt (by decide)
      have ho : s &&& (s - 1) < s := and_sub1_lt (by omega)
      rw [show F_X7_lowest v (nI s) = some (nI p, v) from ep, bdI_s, show nI s - 1 = nI (s - 1) from pk_sub (a := s) (b := 1) hs1, nx_and, gd_nI _ (show s &&& (s - 1) < 4096 by omega) (by omega), nI_clamp (show s &&& (s - 1) < 2 ^ 31 by omega), hR _ ho]
      have wa : F_X7_isWithAll v (nI p) (nI (s &&& (s - 1))) = some (bi (al (fun q => !(s &&& (s - 1)).testBit q || decide (q = p) || onW X sl p q) n), v) := wa_5 hX hC hpn (by omega) fu n 0 (by omega) (by unfold fu; omega)
      have rl := RG_low (n := n) (on := onW X sl) (fun a b h => onW_sym h) hpt hpl hpn
      have fin : ∀ b : Bool, b = RG (onW X sl) n s → ∃ v', F_X7_findRings_64 (F_X7_findRings_13 m) v (nI s) (nI s) (bi b) = some v' ∧ W6 v v' ∧ RT v' n (onW X sl) := by
        intro b eb
        unfold F_X7_findRings_64
        rw [gd_nI _ hs (by omega), nI_clamp (show s < 2 ^ 31 by omega), nar_b, nI_1]
        obtain ⟨v', e1, e2, e3⟩ := ih j (s + 1) (sI v 6 s (bi b)) (by omega) (by omega) (by omega) (hX.fr rfl (funext fun k => sI_i (by decide))) (fun a c ha hc => by rw [sI_i (by decide)]; exact hC a c ha hc) (fun t ht => by
          by_cases e : t = s
          · subst e; rw [sI_eq, eb]
          · rw [sI_k e]; exact hR t (by omega))
        exact ⟨v', e1, ⟨e2.1, fun c hc => (e2.2 c hc).trans (funext fun k => sI_i hc)⟩, e3⟩
      unfold F_X7_findRings_63
      cases h : RG (onW X sl) n (s &&& (s - 1))
      · rw [if_pos (show bi false = 0 from rfl)]
        exact fin false (by rw [rl, h]; rfl)
      · rw [if_neg (show ¬ bi true = 0 by decide), wa, bdI_s]
        cases g : al (fun q => !(s &&& (s - 1)).testBit q || decide (q = p) || onW X sl p q) n
        · rw [if_pos (show bi false = 0 from rfl)]
          exact fin false (by rw [rl, h, g]; rfl)
        · rw [if_neg (show ¬ bi true = 0 by decide)]
          exact fin true (by rw [rl, h, g]; rfl)
theorem RG_0 {on : Nat → Nat → Bool} : RG on n 0 = true := RG_iff.mpr (fun p q _ _ h => by rw [Nat.zero_testBit] at h; exact absurd h (by decide))
def W456 (v v2 : Mem) : Prop := v2.2 = v.2 ∧ ∀ c, c ≠ 4 → c ≠ 5 → c ≠ 6 → v2.1 c = v.1 c
theorem W456.ok {v v2 : Mem} (h : W456 v v2) : okM v v2 := ⟨fun i hi => ⟨h.2 i (by omega) (by omega) (by omega), by rw [h.1]⟩, by rw [h.2 0 (by decide) (by decide) (by decide)], by rw [h.2 0 (by decide) (by decide) (by decide)]⟩
theorem W456.mx {v v2 : Mem} (h : W456 v v2) (g : MX v n X sl) : MX v2 n X sl := g.fr (by rw [h.1]) (h.2 1 (by decide) (by decide) (by decide))
theorem findRings_M {v : Mem} (hX : MX v n X sl) : ∃ v', F_X7_findRings v = some v' ∧ W456 v v' ∧ CAN v' n X sl ∧ BYY v' n X ∧ RT v' n (onW X sl) := by
  have hn := hX.1
  have hp2 := p2_le (p := n) (by omega)
  have hpos := Nat.two_pow_pos n
  obtain ⟨v1, e1, w1, c1, b1⟩ := findCan_M hX
  obtain ⟨v2, e2, w2, r2⟩ := fr_13 (n := n) (X := X) (sl := sl) fu (2 ^ n - 1) 1 (sI v1 6 0 1) (by omega) (by omega) (by unfold fu; omega) ((w1.mx hX).fr rfl (funext fun k => sI_i (by decide))) (fun a c ha hc => by rw [sI_i (by decide)]; exact c1 a c ha hc) (fun t ht => by
    have e : t = 0 := by omega
    subst e
    rw [sI_eq, RG_0]; rfl)
  refine ⟨v2, ?_, ⟨w2.1.trans w1.1, fun c h4 h5 h6 => (w2.2 c h6).trans ((funext fun k => sI_i h6).trans (w1.2 c h4 h5))⟩, fun a b ha hb => by rw [w2.2 4 (by decide), sI_i (by decide)]; exact c1 a b ha hb, fun a ha => by rw [w2.2 5 (by decide), sI_i (by decide)]; exact b1 a ha, r2⟩
  unfold F_X7_findRings
  rw [e1, bdV_s]
  exact e2
end
theorem ST14 : ST_14 Rel := by
  intro u v x1 hR
  obtain ⟨n, hA⟩ := hR.1
  obtain ⟨hX, hY⟩ := hA.X
  rcases set_cases hX.2.1 hY.2.1 hX.1 x1 with ⟨c, m⟩ | ⟨s, hs, hs2, rfl, c, m⟩
  · exact ⟨-1000000001, tC u 0, tM v 0, by unfold F_X6_ring; rw [c]; rfl, by unfold F_X7_ring; rw [m]; rfl, hR.fd 0 (by omega)⟩
  obtain ⟨u1, e1, w1, l1⟩ := weigh_C hX
  obtain ⟨v1, f1, w2, -, -, r1⟩ := findRings_M hY
  refine ⟨bi (RG (onW (vM v 1 2) (v.1 1 1)) n s), u1, v1, ?_, ?_, hR.frame w1.ok w2.ok⟩
  · unfold F_X6_ring F_X6_ring_41
    rw [c, bdI_s, ite10, e1, bdV_s, isRing_C hX.1 (w1.X hX).2.1 l1 hs hs2, bdI_s]
    cases RG (onW (vM v 1 2) (v.1 1 1)) n s <;> rfl
  · unfold F_X7_ring F_X7_ring_33
    rw [m, bdI_s, ite10, f1, bdV_s, gd_nI _ hs2 (by omega), nI_clamp (by omega), r1 s hs]
    cases RG (onW (vM v 1 2) (v.1 1 1)) n s <;> rfl
/-! loners -/
def mk (f : Nat → Bool) : Nat → Nat
  | 0 => 0
  | k + 1 => if f k then mk f k ||| 2 ^ k else mk f k
theorem mk_s (f : Nat → Bool) (k : Nat) : mk f (k + 1) = if f k then mk f k ||| 2 ^ k else mk f k := rfl
theorem mk_congr {f g : Nat → Bool} : ∀ k, (∀ i, i < k → f i = g i) → mk f k = mk g k := by
  intro k
  induction k with
  | zero => intro _; rfl
  | succ k ih => intro h; rw [mk_s, mk_s, h k (by omega), ih (fun i hi => h i (by omega))]
theorem lo_4 {u : Mem} {n : Nat} {on : Nat → Nat → Bool} {f : Nat → Nat → Bool} {s : Nat} (hn : n ≤ 12) (h4 : u.1 4 1 = nI n) (hL : LM u f (EF n on)) (hs2 : s < 4096) : ∀ m k i, i + k = n → k < m → F_X2_loners_4 m u (nI s) (nI (mk (fun p => s.testBit p && al (fun q => !(s.testBit q && EF n on p q)) 12) i)) (nI i) = some (nI (mk (fun p => s.testBit p && al (fun q => !(s.testBit q && EF n on p q)) 12) n), u) := by
  intro m
  induction m with
  | zero => intro k i _ h; exact absurd h (by omega)
  | succ m ih =>
    intro k i h1 hk
    unfold F_X2_loners_4 F_X2_loners_40
    rw [h4]
    cases k with
    | zero =>
      have e : i = n := by omega
      subst e
      rw [if_pos (nI_le (Nat.le_refl i) (by omega))]
    | succ k =>
      have hi : i < 12 := by omega
      have h := ih k (i + 1) (by omega) (by omega)
      rw [mk_s] at h
      rw [if_neg (nI_ge (by omega) (by omega)), isIn_C hs2 hi, bdI_s, nI_1]
      cases hb : s.testBit i
      · rw [hb, Bool.false_and, if_neg (show ¬ false = true by decide)] at h
        rw [if_pos (show bi false = 0 from rfl)]; exact h
      · rw [hb, Bool.true_and] at h
        rw [if_neg (show ¬ bi true = 0 by decide), gd_nI _ hi (by omega), cl_nI hi, bit_I i (by omega)]
        obtain ⟨x, hx, ex, hxt⟩ := (hL i hi).2
        have hl : s &&& x < 4096 := Nat.lt_of_le_of_lt Nat.and_le_left hs2
        have hz : nI (s &&& x) = 0 ↔ al (fun q => !(s.testBit q && EF n on i q)) 12 = true := by
          rw [nI0 hl, zero_t12 hl, al_iff]
          constructor
          · intro h q hq
            have := h q hq
            rw [Nat.testBit_and, hxt q hq] at this
            rw [this]; rfl
          · intro h q hq
            rw [Nat.testBit_and, hxt q hq]
            have := h q hq
            cases hz : (s.testBit q && EF n on i q)
            · rfl
            · rw [hz] at this; exact absurd this (by decide)
        rw [ex, nx_and, nx_or]
        by_cases g : nI (s &&& x) = 0
        · rw [if_pos g]
          rw [hz.mp g, if_pos rfl] at h; exact h
        · rw [if_neg g]
          rw [if_neg (fun z => g (hz.mpr z))] at h; exact h
section
variable {n : Nat} {X : Nat → PV} {sl : Int32}
def gA (X : Nat → PV) (sl : Int32) (s p q : Nat) : Bool := decide (q = p) || !s.testBit q || !onW X sl p q
theorem lm_43 {v : Mem} {s p x : Nat} (hX : MX v n X sl) (hC : CAN v n X sl) (hs : s < 4096) (hp : p < n) (k23 : Mem → Int32 → Int32 → Int32 → Option (Int32 × Mem)) : ∀ m k i, i + k = n → k < m → F_X7_alone_43 k23 m v (nI s) (nI x) (nI p) (bi (s.testBit p && al (gA X sl s p) i)) (nI i) = k23 v (nI s) (nI (if (s.testBit p && al (gA X sl s p) n) then x ||| 2 ^ p else x)) (nI (p + 1)) := by
  intro m
  induction m with
  | zero => intro k i _ h; exact absurd h (by omega)
  | succ m ih =>
    intro k i h1 hk
    have hn := hX.1
    unfold F_X7_alone_43 F_X7_alone_88 F_X7_alone_84 F_X7_alone_89 F_X7_alone_110
    rw [gd_c0, cl_0, hX.2.1]
    cases k with
    | zero =>
      have e : i = n := by omega
      subst e
      rw [if_pos (nI_le (Nat.le_refl i) (by omega)), nI_1, bit_I p (by omega), show nI x ||| 0 = nI x from Int32.or_zero, nx_or]
      cases s.testBit p && al (gA X sl s p) i
      · rw [if_pos (show bi false = 0 from rfl), if_neg (show ¬ false = true by decide)]
      · rw [if_neg (show ¬ bi true = 0 by decide), if_pos (show true = true from rfl)]
    | succ k =>
      have hi : i < 12 := by omega
      have h := ih k (i + 1) (by omega) (by omega)
      rw [al_s, ← Bool.and_assoc] at h
      rw [if_neg (nI_ge (by omega) (by omega)), nI_1]
      cases ha : (s.testBit p && al (gA X sl s p) i)
      · rw [ha, Bool.false_and] at h
        rw [if_pos (show bi false = 0 from rfl)]; exact h
      · rw [ha, Bool.true_and] at h
        rw [if_neg (show ¬ bi true = 0 by decide)]
        unfold gA at h
        by_cases e : i = p
        · rw [if_pos (congrArg nI e)]
          rw [decide_eq_true e, Bool.true_or, Bool.true_or] at h; exact h
        · rw [if_neg (fun z => e ((nI_eq (by omega) (by omega)).mp z)), has_M hs hi, bdI_s]
          rw [decide_eq_false e, Bool.false_or] at h
          cases hb : s.testBit i
          · rw [hb] at h
            rw [if_pos (show bi false = 0 from rfl)]; exact h
          · rw [hb, Bool.not_true, Bool.false_or] at h
            rw [if_neg (show ¬ bi true = 0 by decide), one_M hX hC hp (show i < n by omega) (fun z => e z.symm), bdI_s]
            cases ho : onW X sl p i
            · rw [ho] at h; rw [if_pos (show bi false = 0 from rfl)]; exact h
            · rw [ho] at h; rw [if_neg (show ¬ bi true = 0 by decide)]; exact h
theorem lm_23 {v : Mem} {s : Nat} (hX : MX v n X sl) (hC : CAN v n X sl) (hs : s < 4096) : ∀ m k i, i + k = n → k < m → F_X7_alone_23 m v (nI s) (nI (mk (fun p => s.testBit p && al (gA X sl s p) n) i)) (nI i) = some (nI (mk (fun p => s.testBit p && al (gA X sl s p) n) n), v) := by
  intro m
  induction m with
  | zero => intro k i _ h; exact absurd h (by omega)
  | succ m ih =>
    intro k i h1 hk
    have hn := hX.1
    unfold F_X7_alone_23
    rw [gd_c0, cl_0, hX.2.1]
    cases k with
    | zero =>
      have e : i = n := by omega
      subst e
      rw [if_pos (nI_le (Nat.le_refl i) (by omega))]
    | succ k =>
      rw [if_neg (nI_ge (by omega) (by omega)), has_M hs (show i < 12 by omega), bdI_s]
      have h := lm_43 (x := mk (fun p => s.testBit p && al (gA X sl s p) n) i) hX hC hs (show i < n by omega) (F_X7_alone_23 m) fu n 0 (by omega) (by unfold fu; omega)
      rw [show al (gA X sl s i) 0 = true from rfl, Bool.and_true, show nI 0 = (0 : Int32) from rfl] at h
      rw [h]
      have h2 := ih k (i + 1) (by omega) (by omega)
      rw [mk_s] at h2
      exact h2
end
theorem ST18 : ST_18 Rel := by
  intro u v x1 hR
  obtain ⟨n, hA⟩ := hR.1
  obtain ⟨hX, hY⟩ := hA.X
  have hn := hX.1
  rcases set_cases hX.2.1 hY.2.1 hX.1 x1 with ⟨c, m⟩ | ⟨s, hs, hs2, rfl, c, m⟩
  · exact ⟨-1000000001, tC u 0, tM v 0, by unfold F_X6_alone; rw [c]; rfl, by unfold F_X7_alone; rw [m]; rfl, hR.fd 0 (by omega)⟩
  obtain ⟨u1, e1, w1, l1⟩ := weigh_C hX
  obtain ⟨v1, f1, w2, c1, -⟩ := findCan_M hY
  have a := lo_4 hX.1 (w1.X hX).2.1 l1 hs2 fu n 0 (by omega) (by unfold fu; omega)
  have b := lm_23 (w2.mx hY) c1 hs2 fu n 0 (by omega) (by unfold fu; omega)
  have e : mk (fun p => s.testBit p && al (fun q => !(s.testBit q && EF n (onW (vM v 1 2) (v.1 1 1)) p q)) 12) n = mk (fun p => s.testBit p && al (gA (vM v 1 2) (v.1 1 1) s p) n) n := by
    refine mk_congr n (fun p hp => congrArg (s.testBit p && ·) (bool_iff ?_))
    rw [al_iff, al_iff]
    unfold gA EF
    constructor
    · intro h q hq
      have := h q (by omega)
      by_cases e : q = p
      · simp [e]
      · cases hb : s.testBit q
        · simp
        · rw [hb, decide_eq_true (show p ≠ q ∧ p < n ∧ q < n from ⟨fun z => e z.symm, hp, hq⟩)] at this
          simpa [e] using this
    · intro h q hq
      by_cases e : p ≠ q ∧ p < n ∧ q < n
      · have := h q e.2.2
        rw [decide_eq_true e]
        cases hb : s.testBit q
        · rfl
        · rw [hb, decide_eq_false (fun z => e.1 z.symm)] at this
          simpa using this
      · rw [decide_eq_false e]; simp
  rw [e] at a
  have z : nI 0 = (0 : Int32) := rfl
  refine ⟨nI (mk (fun p => s.testBit p && al (gA (vM v 1 2) (v.1 1 1) s p) n) n), u1, v1, ?_, ?_, hR.frame w1.ok w2.ok⟩
  · unfold F_X6_alone F_X2_loners
    rw [c, bdI_s, ite10, e1, bdV_s]
    rw [show mk (fun p => s.testBit p && al (fun q => !(s.testBit q && EF n (onW (vM v 1 2) (v.1 1 1)) p q)) 12) 0 = 0 from rfl, z] at a
    rw [a, bdI_s]
  · unfold F_X7_alone
    rw [m, bdI_s, ite10, f1, bdV_s]
    rw [show mk (fun p => s.testBit p && al (gA (vM v 1 2) (v.1 1 1) s p) n) 0 = 0 from rfl, z] at b
    exact b
