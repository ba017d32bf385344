/-! PURE: reading a sheet -/
theorem rd_cases (x : Int64) {n : Nat} (hn : n ≤ 12) : lg_cmp x 0 < 0 ∨ (¬ lg_cmp x 0 < 0 ∧ ¬ lg_cmp x (nI n).toInt64 < 0 ∧ 0 ≤ lg_cmp x (nI n).toInt64) ∨ ∃ p, p < n ∧ x = lN p ∧ ¬ lg_cmp x 0 < 0 ∧ lg_cmp x (nI n).toInt64 < 0 ∧ ¬ 0 ≤ lg_cmp x (nI n).toInt64 := by
  rw [nI_l (by omega)]
  by_cases h1 : lg_cmp x 0 < 0
  · exact Or.inl h1
  have g1 : ¬ x < 0 := fun g => by
    unfold lg_cmp at h1
    have g' := Int64.lt_iff_toInt_lt.mp g
    rw [show (0 : Int64).toInt = 0 from rfl] at g'
    have a : ¬ x > 0 := fun a => by
      have a := Int64.lt_iff_toInt_lt.mp a
      rw [show (0 : Int64).toInt = 0 from rfl] at a
      omega
    have b : ¬ x = 0 := fun b => by rw [b] at g; exact absurd g (by decide)
    rw [if_neg a, if_neg b] at h1
    exact absurd (by decide) h1
  obtain ⟨k, hk, rfl⟩ := pk_lOf g1
  by_cases hkn : k < n
  · have e : lg_cmp (lN k) (lN n) = -1 := by
      unfold lg_cmp
      rw [if_neg (fun z => absurd ((pk_lLT (by omega) hk).mp z) (by omega)), if_neg (fun z => absurd ((pk_lEQ hk (by omega)).mp z) (by omega))]
    exact Or.inr (Or.inr ⟨k, hkn, rfl, h1, by rw [e]; decide, by rw [e]; decide⟩)
  · refine Or.inr (Or.inl ⟨h1, ?_⟩)
    by_cases e : k = n
    · have e : lg_cmp (lN k) (lN n) = 0 := by
        unfold lg_cmp
        rw [if_neg (fun z => absurd ((pk_lLT (by omega) hk).mp z) (by omega)), if_pos (by rw [e])]
      rw [e]; decide
    · have e : lg_cmp (lN k) (lN n) = 1 := by
        unfold lg_cmp
        rw [if_pos (show lN k > lN n from (pk_lLT (by omega) hk).mpr (by omega))]
      rw [e]; decide
theorem tb_I {s p : Nat} (hs : s < 4096) : (nI s &&& nI (2 ^ p) = 0) ↔ s.testBit p = false := by
  have hl : s &&& 2 ^ p < 4096 := Nat.lt_of_le_of_lt Nat.and_le_left hs
  rw [nx_and, nI0 hl, zero_t]
  constructor
  · intro h
    have := h p
    rw [Nat.testBit_and, Nat.testBit_two_pow, decide_eq_true rfl, Bool.and_true] at this
    exact this
  · intro h q
    rw [Nat.testBit_and, Nat.testBit_two_pow]
    by_cases e : p = q
    · rw [← e, h]; rfl
    · rw [decide_eq_false e, Bool.and_false]
theorem al_false {f : Nat → Bool} {n i : Nat} (hi : i < n) (h : f i = false) : al f n = false := by
  cases e : al f n
  · rfl
  · have := (al_iff n).mp e i hi
    rw [h] at this; exact absurd this (by decide)
section
variable {n : Nat} {X : Nat → PV} {sl : Int32}
theorem can_X {u : Mem} {p q : Nat} (hX : CX u n X sl) (hp : p < n) (hq : q < n) : F_X0_canBe 1 u (nI p) (nI q) = some (bi (cnW X sl p q), u) := by
  have hn := hX.1
  have h := canC (u := u) (t := 1) (p := p) (q := q) (by omega) (by omega)
  rw [show 12 * 1 + 16 + p = 28 + p by omega, show 12 * 1 + 16 + q = 28 + q by omega, (hX.2.2.2 p hp).1, (hX.2.2.2 q hq).1, show u.1 (1 + 3) 2 = sl from hX.2.2.1] at h
  exact h
theorem ca_2 {u : Mem} {c p : Nat} (hX : CX u n X sl) (hc : c < 4096) (hp : p < n) : ∀ m k i, i + k = n → k < m → al (fun q => !c.testBit q || cnW X sl q p) i = true → F_X0_canAllBe_2 m u 1 (nI c) (nI p) (nI i) = some (bi (al (fun q => !c.testBit q || cnW X sl q p) n), u) := by
  intro m
  induction m with
  | zero => intro k i _ h; exact absurd h (by omega)
  | succ m ih =>
    intro k i h1 hk ha
    have hn := hX.1
    unfold F_X0_canAllBe_2 F_X0_canAllBe_29
    rw [show u.1 (1 + 3) 1 = nI n from hX.2.1]
    cases k with
    | zero =>
      have e : i = n := by omega
      subst e
      rw [if_pos (nI_le (Nat.le_refl i) (by omega)), ha]; rfl
    | succ k =>
      rw [if_neg (nI_ge (by omega) (by omega)), bit_I i (by omega), nI_1]
      cases hb : c.testBit i
      · rw [if_pos ((tb_I hc).mpr hb)]
        exact ih k (i + 1) (by omega) (by omega) (by rw [al_s, ha, hb]; rfl)
      · rw [if_neg (fun z => by rw [(tb_I hc).mp z] at hb; exact absurd hb (by decide)), can_X hX (by omega) hp, bdI_s]
        cases ho : cnW X sl i p
        · rw [if_pos (show bi false = 0 from rfl), al_false (i := i) (by omega) (by rw [hb, ho]; rfl)]; rfl
        · rw [if_neg (show ¬ bi true = 0 by decide)]
          exact ih k (i + 1) (by omega) (by omega) (by rw [al_s, ha, ho]; simp)
theorem rd_136_0 {v : Mem} (hX : MX v n X sl) (k42 : Mem → Int32 → Int32 → Int32 → Int32 → Option (Int32 × Mem)) (x1 x2 x4 x8 : Int32) : ∀ m k i, i + k = n → k < m → F_X7_read_136 k42 m v x1 x2 x4 0 x8 (nI i) = k42 v x1 (x2 ||| (1 <<< (x8 &&& 31))) (x4 + 1) (x4 + 1) := by
  intro m
  induction m with
  | zero => intro k i _ h; exact absurd h (by omega)
  | succ m ih =>
    intro k i h1 hk
    have hn := hX.1
    unfold F_X7_read_136 F_X7_read_181 F_X7_read_182 F_X7_read_203
    rw [gd_c0, cl_0, hX.2.1]
    cases k with
    | zero => rw [if_pos (nI_le (by omega) (by omega)), ite00]
    | succ k =>
      rw [if_neg (nI_ge (by omega) (by omega)), ite00, nI_1]
      exact ih k (i + 1) (by omega) (by omega)
theorem rd_136 {v : Mem} {c p : Nat} (hX : MX v n X sl) (hC : CAN v n X sl) (hc : c < 4096) (hp : p < n) (hcp : c.testBit p = false) (k42 : Mem → Int32 → Int32 → Int32 → Int32 → Option (Int32 × Mem)) (x1 x4 : Int32) : ∀ m k i, i + k = n → k < m → F_X7_read_136 k42 m v x1 (nI c) x4 (bi (al (fun q => !c.testBit q || cnW X sl q p) i)) (nI p) (nI i) = k42 v x1 (nI c ||| (1 <<< (nI p &&& 31))) (if al (fun q => !c.testBit q || cnW X sl q p) n = true then 0 else x4 + 1) (x4 + 1) := by
  intro m
  induction m with
  | zero => intro k i _ h; exact absurd h (by omega)
  | succ m ih =>
    intro k i h1 hk
    have hn := hX.1
    unfold F_X7_read_136 F_X7_read_181 F_X7_read_177 F_X7_read_182 F_X7_read_203
    rw [gd_c0, cl_0, hX.2.1]
    cases k with
    | zero =>
      have e : i = n := by omega
      subst e
      rw [if_pos (nI_le (Nat.le_refl i) (by omega))]
      cases al (fun q => !c.testBit q || cnW X sl q p) i
      · rw [if_pos (show bi false = 0 from rfl), if_neg (show ¬ false = true by decide)]
      · rw [if_neg (show ¬ bi true = 0 by decide), if_pos (show true = true from rfl)]
    | succ k =>
      have h := ih k (i + 1) (by omega) (by omega)
      rw [al_s] at h
      rw [if_neg (nI_ge (by omega) (by omega)), nI_1]
      cases ha : al (fun q => !c.testBit q || cnW X sl q p) i
      · rw [ha, Bool.false_and] at h
        rw [if_pos (show bi false = 0 from rfl)]; exact h
      · rw [ha, Bool.true_and] at h
        rw [if_neg (show ¬ bi true = 0 by decide), has_M hc (by omega), bdI_s]
        cases hb : c.testBit i
        · rw [hb] at h
          rw [if_pos (show bi false = 0 from rfl)]; exact h
        · rw [hb, Bool.not_true, Bool.false_or] at h
          have hip : i ≠ p := fun z => by rw [z, hcp] at hb; exact absurd hb (by decide)
          rw [if_neg (show ¬ bi true = 0 by decide), ix12, gd_nI _ (show 12 * i + p < 144 by omega) (by omega), nI_clamp (show 12 * i + p < 2 ^ 31 by omega), hC i p (by omega) hp, decide_eq_true hip, Bool.true_and]
          cases ho : cnW X sl i p
          · rw [ho] at h; rw [if_pos (show bi false = 0 from rfl)]; exact h
          · rw [ho] at h; rw [if_neg (show ¬ bi true = 0 by decide)]; exact h
theorem read_L {u v : Mem} {s z : Nat} (hX : CX u n X sl) (hY : MX v n X sl) (hC : CAN v n X sl) (hs : s < 4) (hz : z ≤ 40) (z1 : u.1 (s + 19) 2 = nI z) (z2 : v.1 11 s = nI z) (hv : ∀ k, k < 40 → u.2 (s + 23) k = v.2 12 (40 * s + k)) : ∀ m k i c, i + k = z → k < m → c < 4096 → ∃ r, F_X6_read_40 m u s (nI c) (nI i) = some (r, u) ∧ F_X7_read_42 m v (nI s) (nI c) 0 (nI i) = some (r, v) := by
  have hn := hX.1
  intro m
  induction m with
  | zero => intro k i c _ h; exact absurd h (by omega)
  | succ m ih =>
    intro k i c h1 hk hc
    unfold F_X6_read_40 F_X7_read_42 F_X7_read_217 F_X6_read_79 F_X6_read_111
    rw [z1, gd_nI _ hs (by omega), cl_nI (show s < 12 by omega), z2]
    cases k with
    | zero =>
      rw [if_pos (nI_le (by omega) (by omega)), if_pos (nI_le (by omega) (by omega))]
      exact ⟨0, rfl, rfl⟩
    | succ k =>
      have wrong : ∀ x2, F_X7_read_42 m v (nI s) x2 (nI (i + 1)) (nI (i + 1)) = some (nI (i + 1), v) := fun x2 => by
        cases m with
        | zero => exact absurd hk (by omega)
        | succ m =>
          unfold F_X7_read_42 F_X7_read_217
          rw [gd_nI _ hs (by omega), if_neg (show ¬ nI (i + 1) = 0 from nI_ne0 (by omega) (by omega)), ite_self]
      have e1 : (1 : Int32) + nI i = nI (i + 1) := by rw [show (1 : Int32) = nI 1 from rfl, nI_add, Nat.add_comm]
      have bad : ∀ x8 : Int32, F_X7_read_136 (F_X7_read_42 m) fu v (nI s) (nI c) (nI i) 0 x8 0 = some (nI (i + 1), v) := fun x8 => by
        have h := rd_136_0 hY (F_X7_read_42 m) (nI s) (nI c) (nI i) x8 fu n 0 (by omega) (by unfold fu; omega)
        rw [show nI 0 = (0 : Int32) from rfl] at h
        rw [h, nI_1]
        exact wrong _
      rw [if_neg (nI_ge (by omega) (by omega)), if_neg (nI_ge (by omega) (by omega)), ite00, gd_nI _ (show i < 40 by omega) (by omega), ix40, gd_nI _ (show 40 * s + i < 160 by omega) (by omega), nI_clamp (show i < 2 ^ 31 by omega), nI_clamp (show 40 * s + i < 2 ^ 31 by omega), hv i (by omega), hX.2.1, gd_c0, cl_0, hY.2.1]
      unfold F_X7_read_95 F_X7_read_96 F_X7_read_110 F_X7_read_130 F_X7_read_131
      rw [ite00, ite00, ite10, ite10, e1, nI_1]
      rcases rd_cases (v.2 12 (40 * s + i)) hn with g | ⟨g1, g2, g3⟩ | ⟨p, hp, ep, g1, g2, g3⟩
      · rw [if_pos g, if_pos g]
        exact ⟨_, rfl, bad 0⟩
      · rw [if_neg g1, if_neg g1, if_neg g2, if_pos g3]
        exact ⟨_, rfl, bad 0⟩
      · have hp12 : p < 12 := by omega
        rw [if_neg g1, if_neg g1, if_pos g2, if_neg g3, ep, lN_i, has_M hc hp12, bdI_s, bit_I p (by omega)]
        cases hb : c.testBit p
        · have h2 := rd_136 hY hC hc hp hb (F_X7_read_42 m) (nI s) (nI i) fu n 0 (by omega) (by unfold fu; omega)
          rw [show al (fun q => !c.testBit q || cnW X sl q p) 0 = true from rfl, show bi true = (1 : Int32) from rfl, show nI 0 = (0 : Int32) from rfl, bit_I p (by omega), nx_or, nI_1] at h2
          have h3 : F_X0_canAllBe 1 u (nI c) (nI p) = some (bi (al (fun q => !c.testBit q || cnW X sl q p) n), u) := ca_2 hX hc hp fu n 0 (by omega) (by unfold fu; omega) rfl
          rw [if_pos ((tb_I hc).mpr hb), if_pos (show bi false = 0 from rfl), h2, h3, bdI_s, nx_or]
          cases ha : al (fun q => !c.testBit q || cnW X sl q p) n
          · rw [if_pos (show bi false = 0 from rfl), if_neg (show ¬ false = true by decide)]
            exact ⟨_, rfl, wrong _⟩
          · rw [if_neg (show ¬ bi true = 0 by decide), if_pos (show true = true from rfl)]
            exact ih k (i + 1) (c ||| 2 ^ p) (by omega) (by omega) (or_lt12 hc (p2_lt hp12))
        · rw [if_neg (fun z => by rw [(tb_I hc).mp z] at hb; exact absurd hb (by decide)), if_neg (show ¬ bi true = 0 by decide)]
          exact ⟨_, rfl, bad _⟩
end
theorem ST37 : ST_37 Rel := by
  intro u v x1 hR
  obtain ⟨n, hA⟩ := hR.1
  obtain ⟨hX, hY⟩ := hA.X
  rcases sh_cases x1 with hw | ⟨s, hs, rfl, hw⟩
  · exact ⟨-1000000001, tC u 0, tM v 0, by unfold F_X6_read; rw [(hw u v).1]; rfl, by unfold F_X7_read; rw [(hw u v).2]; rfl, hR.fd 0 (by omega)⟩
  obtain ⟨b1, b2, ⟨z, hz, z1, z2⟩, b4⟩ := hR.2.2.2.1 s hs
  unfold F_X6_read F_X7_read
  rw [(hw u v).1, (hw u v).2, bdI_s, bdI_s, ite10, ite10, gd_nI _ hs (by omega), gd_nI _ hs (by omega), cl_nI (show s < 12 by omega)]
  by_cases h0 : v.1 10 s = 0
  · rw [mis_y (b1.trans h0), bdI_s, ite10, if_pos h0]
    exact ⟨-1000000006, tC u 5, tM v 5, rfl, rfl, hR.fd 5 (by omega)⟩
  rw [mis_n (fun e => h0 (b1.symm.trans e)), bdI_s, ite00, if_neg h0]
  obtain ⟨v1, f1, w1, c1, -⟩ := findCan_M hY
  rw [f1, bdV_s]
  obtain ⟨r, a1, a2⟩ := read_L hX (w1.mx hY) c1 hs hz z1 (by rw [w1.2 11 (by decide) (by decide)]; exact z2) (fun k hk => by rw [w1.1]; exact b4 k hk) fu z 0 0 (by omega) (by unfold fu; omega) (by omega)
  exact ⟨r, u, v1, a1, a2, hR.frame (okC.rf u) w1.ok⟩
