def bt (x : Int32) (i : Nat) : Bool := x.toBitVec.getLsbD i
theorem b_ext {x y : Int32} (h : ∀ i, i < 32 → bt x i = bt y i) : x = y := Int32.toBitVec_inj.mp (BitVec.eq_of_getLsbD_eq (fun i hi => h i hi))
theorem b_and (x y : Int32) (i : Nat) : bt (x &&& y) i = (bt x i && bt y i) := by unfold bt; rw [Int32.toBitVec_and, BitVec.getLsbD_and]
theorem b_big {x : Int32} {i : Nat} (h : 32 ≤ i) : bt x i = false := BitVec.getLsbD_of_ge _ _ h
theorem b_255 (i : Nat) : bt 255 i = decide (i < 8) := by
  rcases Nat.lt_or_ge i 32 with h | h
  · exact (by decide +kernel : ∀ i, i < 32 → bt 255 i = decide (i < 8)) i h
  · rw [b_big h, decide_eq_false (by omega)]
theorem s_l : ∀ n, n < 32 → ((nI n &&& 31).toBitVec.smod 32).toNat = n := by decide +kernel
theorem s_u : ∀ n, n < 32 → (((nI n).toUInt32 &&& Int32.toUInt32 31).toBitVec % 32).toNat = n := by decide +kernel
theorem b_ushr (n : Nat) (hn : n < 32) (x : Int32) (i : Nat) : bt ((x.toUInt32 >>> ((nI n).toUInt32 &&& Int32.toUInt32 31)).toInt32) i = bt x (n + i) := by
  show (x.toUInt32 >>> ((nI n).toUInt32 &&& Int32.toUInt32 31)).toBitVec.getLsbD i = x.toUInt32.toBitVec.getLsbD (n + i)
  rw [UInt32.toBitVec_shiftRight]
  show (x.toUInt32.toBitVec >>> (((nI n).toUInt32 &&& Int32.toUInt32 31).toBitVec % 32).toNat).getLsbD i = _
  rw [s_u n hn, BitVec.getLsbD_ushiftRight]
theorem b_sshr (n : Nat) (hn : n < 32) (x : Int32) {i : Nat} (hi : i < 32) : bt (x >>> (nI n &&& 31)) i = if n + i < 32 then bt x (n + i) else bt x 31 := by
  unfold bt
  rw [Int32.toBitVec_shiftRight]
  show (x.toBitVec.sshiftRight ((nI n &&& 31).toBitVec.smod 32).toNat).getLsbD i = _
  rw [s_l n hn, BitVec.getLsbD_sshiftRight, BitVec.msb_eq_getLsbD_last]
  simp [hi]
/-! PURE: the tape, images, counts -/
theorem Rel.updT {u v u2 v2 : Mem} (hR : Rel u v) (hT : RTp u2 v2) (hC : ∀ i, i ≠ 15 → i ≠ 16 → u2.1 i = u.1 i) (hC2 : u2.2 = u.2) (hM : ∀ i, i ≠ 0 → i ≠ 9 → v2.1 i = v.1 i) (h24 : v2.1 0 24 = v.1 0 24) (hM2 : v2.2 = v.2) : Rel u2 v2 := by
  obtain ⟨⟨n, hA⟩, hK, -, hS, hF⟩ := hR
  refine ⟨⟨n, hA.congr (by rw [hC 4 (by omega) (by omega)]) (by rw [hC 4 (by omega) (by omega)]) (hM 1 (by omega) (by omega)) (fun p _ => by rw [hM2]) (fun p hp => prC_eq (hC _ (by omega) (by omega)) (by rw [hC2]))⟩, ⟨by rw [hC 0 (by omega) (by omega), h24]; exact hK.1, ?_⟩, hT, fun s hs => (hS s hs).congr (hC _ (by omega) (by omega)) (by rw [hC2]) (by rw [hM 10 (by omega) (by omega)]) (by rw [hM 11 (by omega) (by omega)]) (fun k _ => by rw [hM2]), fun k hk => by rw [hC 27 (by omega) (by omega), hM 3 (by omega) (by omega)]; exact hF k hk⟩
  rw [h24]
  rcases hK.2 with h | ⟨h, n2, h2⟩
  · exact Or.inl h
  · exact Or.inr ⟨h, n2, h2.congr (by rw [hC 5 (by omega) (by omega)]) (by rw [hC 5 (by omega) (by omega)]) (hM 14 (by omega) (by omega)) (fun p _ => by rw [hM2]) (fun p hp => prC_eq (hC _ (by omega) (by omega)) (by rw [hC2]))⟩
theorem Rel.wipe {u v : Mem} (hR : Rel u v) : Rel (sI u 15 1 0) (sI v 0 9 0) := by
  refine hR.updT ⟨0, by omega, sI_eq, sI_eq, fun j hj => absurd hj (by omega)⟩ (fun i h1 _ => funext fun j => sI_i h1) rfl (fun i h1 _ => funext fun j => sI_i h1) (sI_k (by decide)) rfl
theorem ST30 : ST_30 Rel := by
  intro u v hR
  obtain ⟨-, -, ⟨k, t1, t2, t3, t4⟩, -⟩ := id hR
  exact ⟨nI k, sI u 15 1 0, sI v 0 9 0, by unfold F_X6_wipe; rw [t2], by unfold F_X7_wipe; rw [t3], hR.wipe⟩
theorem by_eq (x : Int32) {k : Nat} (hk : k < 4) : (x.toUInt32 >>> ((8 * nI k).toUInt32 &&& Int32.toUInt32 31)).toInt32 &&& 255 = (x >>> ((8 * nI k) &&& 31)) &&& 255 := by
  rw [show (8 : Int32) = nI 8 from rfl, pk_mul]
  apply b_ext
  intro i hi
  rw [b_and, b_and, b_ushr (8 * k) (by omega), b_sshr (8 * k) (by omega) _ hi, b_255]
  by_cases h : i < 8
  · rw [if_pos (by omega)]
  · rw [decide_eq_false h, Bool.and_false, Bool.and_false]
/-- one byte more -/
theorem Rel.byte {u v : Mem} {s b : Nat} (hR : Rel u v) (hs : u.1 15 1 = nI s) (hs1 : s < 120) (hb : b < 256) : Rel (sI (sI u 16 s (nI b)) 15 1 (nI (s + 1))) (sI (sI v 9 s (nI b)) 0 9 (nI (s + 1))) := by
  obtain ⟨-, -, ⟨k, t1, t2, t3, t4⟩, -⟩ := id hR
  have e : k = s := (nI_eq (by omega) (by omega)).mp (t2.symm.trans hs)
  subst e
  refine hR.updT ⟨k + 1, by omega, sI_eq, sI_eq, fun j hj => ?_⟩ (fun i h1 h2 => funext fun j => ?_) rfl (fun i h1 h2 => funext fun j => ?_) ?_ rfl
  · rw [sI_i (show (16 : Nat) ≠ 15 by decide), sI_i (show (9 : Nat) ≠ 0 by decide)]
    by_cases h : j = k
    · subst h; rw [sI_eq, sI_eq]; exact ⟨rfl, b, hb, rfl⟩
    · rw [sI_k h, sI_k h]; exact t4 j (by omega)
  · rw [sI_i h1, sI_i h2]
  · rw [sI_i h1, sI_i h2]
  · rw [sI_k (by decide), sI_i (by decide)]
theorem feed_L (x : Int32) : ∀ (m k s : Nat) (u v : Mem), Rel u v → u.1 15 1 = nI s → k ≤ 4 → s + k ≤ 120 → k < m → ∃ u' v', F_X6_feed_42 m u x (nI k - 1) = some (nI (s + k), u') ∧ F_X7_feed_38 m v x (nI k - 1) = some (nI (s + k), v') ∧ Rel u' v' := by
  intro m
  induction m with
  | zero => intro k s u v _ _ _ _ h; exact absurd h (by omega)
  | succ m ih =>
    intro k s u v hR hs hk hsk hm
    obtain ⟨-, -, ⟨k2, t1, t2, t3, t4⟩, -⟩ := id hR
    have e : k2 = s := (nI_eq (by omega) (by omega)).mp (t2.symm.trans hs)
    subst e
    unfold F_X6_feed_42 F_X7_feed_38
    cases k with
    | zero => exact ⟨u, v, by rw [if_pos (by decide), t2]; rfl, by rw [if_pos (by decide), t3]; rfl, hR⟩
    | succ k =>
      obtain ⟨b, hb, eb⟩ := pk_andE (x >>> ((8 * nI k) &&& 31)) (m := 255) 8 (by decide)
      have r1 := hR.byte (b := b) hs (by omega) hb
      obtain ⟨u', v', f1, f2, f3⟩ := ih k (k2 + 1) _ _ r1 sI_eq (by omega) (by omega) (by omega)
      refine ⟨u', v', ?_, ?_, f3⟩
      · rw [nI_pred, if_neg (nI_pos (by omega)), by_eq x (by omega), eb]
        unfold F_X4_take F_X4_take_29
        rw [t2, if_neg (show ¬ (120 : Int32) ≤ nI k2 from nI_ge (b := 120) (by omega) (by omega)), gd_nI _ (by omega) (by omega), nI_clamp (by omega), bdV_s, bdV_s, sI_i (show (15 : Nat) ≠ 16 by decide), t2, nI_1, f1, show k2 + 1 + k = k2 + (k + 1) by omega]
      · rw [nI_pred, if_neg (nI_pos (by omega)), eb, t3, gd_nI _ (by omega) (by omega), nI_clamp (by omega), bdV_s, sI_i (show (0 : Nat) ≠ 9 by decide), t3, nI_1, f2, show k2 + 1 + k = k2 + (k + 1) by omega]
theorem ST29 : ST_29 Rel := by
  intro u v x1 x2 hR
  obtain ⟨-, -, ⟨k, t1, t2, t3, t4⟩, -⟩ := id hR
  by_cases h1 : x2 < 1
  · exact ⟨-1000000001, tC u 0, tM v 0, by unfold F_X6_feed F_X6_feed_10; rw [if_pos h1]; rfl, by unfold F_X7_feed; rw [in_n (Or.inl h1)]; rfl, hR.fd 0 (by omega)⟩
  by_cases h2 : 4 < x2
  · have h3 : ¬ x2 ≤ 4 := fun z => by rw [Int32.le_iff_toInt_le] at z; rw [Int32.lt_iff_toInt_lt] at h2; omega
    exact ⟨-1000000001, tC u 0, tM v 0, by unfold F_X6_feed F_X6_feed_10; rw [if_neg h1, if_neg h3]; rfl, by unfold F_X7_feed; rw [in_n (Or.inr h2)]; rfl, hR.fd 0 (by omega)⟩
  have h3 : x2 ≤ 4 := by rw [Int32.lt_iff_toInt_lt] at h2; rw [Int32.le_iff_toInt_le]; omega
  obtain ⟨j, j1, j2, rfl⟩ : ∃ j, 1 ≤ j ∧ j ≤ 4 ∧ x2 = nI j := by
    rcases rng 4 4 rfl (by omega) x2 with (h | h) | ⟨j, hj, rfl⟩
    · exact absurd (show x2 < 1 by rw [Int32.lt_iff_toInt_lt] at h ⊢; rw [show (0 : Int32).toInt = 0 from rfl] at h; rw [show (1 : Int32).toInt = 1 from rfl]; omega) h1
    · exact absurd h h2
    · refine ⟨j, ?_, hj, rfl⟩
      rcases Nat.eq_zero_or_pos j with rfl | g
      · exact absurd (by decide) h1
      · exact g
  by_cases h4 : k + j ≤ 120
  · obtain ⟨u', v', f1, f2, f3⟩ := feed_L x1 fu j k u v hR t2 j2 h4 (by unfold fu; omega)
    refine ⟨nI (k + j), u', v', ?_, ?_, f3⟩
    · unfold F_X6_feed
      rw [if_neg h1, if_pos h3, t2, nI_add, if_pos (show nI (k + j) ≤ (120 : Int32) from nI_le (b := 120) h4 (by omega)), f1]
    · unfold F_X7_feed
      rw [in_y h1 h2, bdI_s, ite10, t3, nI_add, if_pos (show nI (k + j) ≤ (120 : Int32) from nI_le (b := 120) h4 (by omega)), f2]
  · have h5 : ¬ nI (k + j) ≤ (120 : Int32) := nI_ge (a := 120) (by omega) (by omega)
    refine ⟨-1000000002, tC u 1, tM v 1, ?_, ?_, hR.fd 1 (by omega)⟩
    · unfold F_X6_feed
      rw [if_neg h1, if_pos h3, t2, nI_add, if_neg h5]
      rfl
    · unfold F_X7_feed
      rw [in_y h1 h2, bdI_s, ite10, t3, nI_add, if_neg h5]
      rfl
/-! images -/
theorem bec_1 {u : Mem} {x y : Nat} (hxy : x ≠ y) (hz : u.1 y 3 = 0 ∨ u.1 y 3 = 1) : ∃ u', F_X1_become x u y = some u' ∧ prC u' x = prC u y ∧ ∀ c, c ≠ x → u'.1 c = u.1 c ∧ u'.2 c = u.2 c := by
  refine ⟨sL (sI (sI (sI (sI u x 0 (u.1 y 0)) x 1 (u.1 y 1)) x 2 (u.1 y 2)) x 3 (u.1 y 3)) x 4 (u.2 y 4), ?_, ?_, fun c hc => ⟨funext fun j => ?_, funext fun j => ?_⟩⟩
  · unfold F_X1_become
    have ny : y ≠ x := fun e => hxy e.symm
    rw [bdV_s]
    simp only [sI_i ny, sI_2]
    unfold gz
    rw [if_pos hz]
  · rw [prC_L, prC_3, prC_2, prC_1, prC_0]; rfl
  · rw [sL_1, sI_i hc, sI_i hc, sI_i hc, sI_i hc]
  · rw [sL_i hc]; rfl
theorem bec_18 {t t2 n : Nat} (ht : t ≠ t2) (hn : n ≤ 12) : ∀ (m k i : Nat) (u : Mem), i + k = n → k < m → u.1 (t + 3) 1 = nI n → 1 ≤ t → t ≤ 3 → 1 ≤ t2 → (∀ p, p < n → u.1 (12 * t2 + 16 + p) 3 = 0 ∨ u.1 (12 * t2 + 16 + p) 3 = 1) → ∃ u', F_X0_become_18 m u t t2 (nI i) = some u' ∧ (∀ p, i ≤ p → p < n → prC u' (12 * t + 16 + p) = prC u (12 * t2 + 16 + p)) ∧ ∀ c, (c < 12 * t + 16 + i ∨ 12 * t + 16 + n ≤ c) → u'.1 c = u.1 c ∧ u'.2 c = u.2 c := by
  intro m
  induction m with
  | zero => intro k i u _ h; exact absurd h (by omega)
  | succ m ih =>
    intro k i u h1 h2 hs ht1 ht3 ht2 hz
    unfold F_X0_become_18
    cases k with
    | zero => exact ⟨u, by rw [hs, if_pos (nI_le (by omega) (by omega))], fun p a b => absurd a (by omega), fun c _ => ⟨rfl, rfl⟩⟩
    | succ k =>
      obtain ⟨u1, e1, p1, o1⟩ := bec_1 (u := u) (x := 12 * t + 16 + i) (y := 12 * t2 + 16 + i) (by omega) (hz i (by omega))
      have far : ∀ p, p < n → 12 * t2 + 16 + p ≠ 12 * t + 16 + i := fun p hp => by omega
      obtain ⟨u2, e2, p2, o2⟩ := ih k (i + 1) u1 (by omega) (by omega) (by rw [(o1 (t + 3) (by omega)).1]; exact hs) ht1 ht3 ht2 (fun p hp => by rw [(o1 _ (far p hp)).1]; exact hz p hp)
      refine ⟨u2, ?_, fun p a b => ?_, fun c hc => ?_⟩
      · rw [hs, if_neg (nI_ge (by omega) (by omega)), gd_nI _ (show i < 12 by omega) (by omega), gd_nI _ (show i < 12 by omega) (by omega), cl_nI (show i < 12 by omega), e1, bdV_s, nI_1, e2]
      · by_cases h : p = i
        · subst h
          rw [prC_eq (o2 _ (by omega)).1 (o2 _ (by omega)).2, p1]
        · rw [p2 p (by omega) b, prC_eq (o1 _ (far p b)).1 (o1 _ (far p b)).2]
      · obtain ⟨a1, a2⟩ := o2 c (by omega)
        obtain ⟨b1, b2⟩ := o1 c (by omega)
        exact ⟨a1.trans b1, a2.trans b2⟩
/-- one archive becomes another -/
theorem bec_C {t t2 n : Nat} {u : Mem} (ht : t ≠ t2) (ht1 : 1 ≤ t) (ht3 : t ≤ 3) (ht2 : 1 ≤ t2) (ht23 : t2 ≤ 3) (hn : n ≤ 12) (hs : u.1 (t2 + 3) 1 = nI n) (hz : ∀ p, p < n → u.1 (12 * t2 + 16 + p) 3 = 0 ∨ u.1 (12 * t2 + 16 + p) 3 = 1) : ∃ u', F_X0_become t u t2 = some u' ∧ u'.1 (t + 3) 1 = nI n ∧ u'.1 (t + 3) 2 = u.1 (t2 + 3) 2 ∧ (∀ p, p < n → prC u' (12 * t + 16 + p) = prC u (12 * t2 + 16 + p)) ∧ ∀ c, c ≠ t + 3 → (c < 12 * t + 16 ∨ 12 * t + 28 ≤ c) → u'.1 c = u.1 c ∧ u'.2 c = u.2 c := by
  have far : ∀ p, p < n → 12 * t2 + 16 + p ≠ t + 3 := fun p hp => by omega
  have q : ∀ c, c ≠ t + 3 → (sI (sI u (t + 3) 1 (nI n)) (t + 3) 2 (u.1 (t2 + 3) 2)).1 c = u.1 c := fun c hc => funext fun j => by rw [sI_i hc, sI_i hc]
  obtain ⟨u1, e1, p1, o1⟩ := bec_18 ht hn fu n 0 (sI (sI u (t + 3) 1 (nI n)) (t + 3) 2 (u.1 (t2 + 3) 2)) (by omega) (by unfold fu; omega) (by rw [sI_k (by decide), sI_eq]) ht1 ht3 ht2 (fun p hp => by rw [q _ (far p hp)]; exact hz p hp)
  refine ⟨u1, ?_, ?_, ?_, fun p hp => ?_, fun c hc h => ?_⟩
  · unfold F_X0_become
    rw [bdV_s, hs, sI_i (show t2 + 3 ≠ t + 3 by omega)]
    exact e1
  · rw [(o1 (t + 3) (by omega)).1, sI_k (by decide), sI_eq]
  · rw [(o1 (t + 3) (by omega)).1, sI_eq]
  · rw [p1 p (by omega) hp]
    exact prC_eq (q _ (far p hp)) rfl
  · obtain ⟨a, b⟩ := o1 c (by omega)
    exact ⟨a.trans (q c hc), b⟩
theorem mv_48 {mu : Nat} (hm : kdM mu = 9) (hl : lenM mu = 12) (h2 : mu ≠ 2) (keep : Bool) : ∀ (m k i : Nat) (v : Mem), i + k = 12 → k < m → ∃ v', F_X7_moveAll_48 m v (bi keep) mu (nI i) = some v' ∧ v'.1 = v.1 ∧ (∀ c, c ≠ (if keep then mu else 2) → v'.2 c = v.2 c) ∧ ∀ p, v'.2 (if keep then mu else 2) p = if i ≤ p ∧ p < 12 then v.2 (if keep then 2 else mu) p else v.2 (if keep then mu else 2) p := by
  intro m
  induction m with
  | zero => intro k i v _ h; exact absurd h (by omega)
  | succ m ih =>
    intro k i v h1 hk
    unfold F_X7_moveAll_48 F_X7_moveAll_84
    cases k with
    | zero => exact ⟨v, by rw [if_pos (show (12 : Int32) ≤ nI i from nI_le (a := 12) (by omega) (by omega))], rfl, fun _ _ => rfl, fun p => by rw [if_neg (show ¬ (i ≤ p ∧ p < 12) by omega)]⟩
    | succ k =>
      rw [if_neg (show ¬ (12 : Int32) ≤ nI i from nI_ge (b := 12) (by omega) (by omega)), hl, gd_nI _ (show i < 12 by omega) (by omega), gd_nI _ (show i < 12 by omega) (by omega), cl_nI (show i < 12 by omega), nI_1]
      cases keep with
      | false =>
        rw [if_pos (by rfl)]
        obtain ⟨v', e1, e2, e3, e4⟩ := ih k (i + 1) (sL v 2 i (v.2 mu i)) (by omega) (by omega)
        refine ⟨v', e1, e2, fun c hc => by rw [e3 c hc]; exact funext fun j => sL_i hc, fun p => ?_⟩
        have z := e4 p
        simp only [Bool.false_eq_true, if_false] at z ⊢
        rw [z]
        by_cases hp : p = i
        · subst hp; rw [if_neg (by omega), if_pos (by omega), sL_eq]
        · by_cases h : i ≤ p ∧ p < 12
          · rw [if_pos (by omega), if_pos h, sL_i h2]
          · rw [if_neg (by omega), if_neg h, sL_k hp]
      | true =>
        rw [if_neg (by decide), gd_nI _ (show i < 12 by omega) (by omega), gd_nI _ (show i < 12 by omega) (by omega)]
        obtain ⟨v', e1, e2, e3, e4⟩ := ih k (i + 1) (sL v mu i (v.2 2 i)) (by omega) (by omega)
        refine ⟨v', e1, e2, fun c hc => by rw [e3 c hc]; exact funext fun j => sL_i hc, fun p => ?_⟩
        have z := e4 p
        simp only [if_true] at z ⊢
        rw [z]
        by_cases hp : p = i
        · subst hp; rw [if_neg (by omega), if_pos (by omega), sL_eq]
        · by_cases h : i ≤ p ∧ p < 12
          · rw [if_pos (by omega), if_pos h, sL_i (fun e => h2 e.symm)]
          · rw [if_neg (by omega), if_neg h, sL_k hp]
theorem mv_3 {ro mu : Nat} (hl : lenM ro = 50) (h1r : ro ≠ 1) (hm : kdM mu = 9) (hlm : lenM mu = 12) (h2 : mu ≠ 2) (keep : Bool) : ∀ (m k i : Nat) (v : Mem), i + k = 50 → k < m → ∃ v', F_X7_moveAll_3 m v (bi keep) ro mu (nI i) = some v' ∧ (∀ c, c ≠ (if keep then ro else 1) → v'.1 c = v.1 c) ∧ (∀ p, v'.1 (if keep then ro else 1) p = if i ≤ p ∧ p < 50 then v.1 (if keep then 1 else ro) p else v.1 (if keep then ro else 1) p) ∧ (∀ c, c ≠ (if keep then mu else 2) → v'.2 c = v.2 c) ∧ ∀ p, p < 12 → v'.2 (if keep then mu else 2) p = v.2 (if keep then 2 else mu) p := by
  intro m
  induction m with
  | zero => intro k i v _ h; exact absurd h (by omega)
  | succ m ih =>
    intro k i v h1 hk
    unfold F_X7_moveAll_3 F_X7_moveAll_39
    cases k with
    | zero =>
      obtain ⟨v', e1, e2, e3, e4⟩ := mv_48 hm hlm h2 keep fu 12 0 v (by omega) (by unfold fu; omega)
      refine ⟨v', ?_, fun c _ => by rw [e2], fun p => by rw [e2, if_neg (show ¬ (i ≤ p ∧ p < 50) by omega)], e3, fun p hp => by rw [e4 p, if_pos (by omega)]⟩
      rw [if_pos (show (50 : Int32) ≤ nI i from nI_le (a := 50) (by omega) (by omega))]
      exact e1
    | succ k =>
      rw [if_neg (show ¬ (50 : Int32) ≤ nI i from nI_ge (b := 50) (by omega) (by omega)), hl, gd_nI _ (show i < 50 by omega) (by omega), gd_nI _ (show i < 50 by omega) (by omega), nI_clamp (show i < 2 ^ 31 by omega), nI_1]
      cases keep with
      | false =>
        rw [if_pos (by rfl)]
        obtain ⟨v', e1, e2, e3, e4, e5⟩ := ih k (i + 1) (sI v 1 i (v.1 ro i)) (by omega) (by omega)
        refine ⟨v', e1, fun c hc => by rw [e2 c hc]; exact funext fun j => sI_i hc, fun p => ?_, e4, e5⟩
        have z := e3 p
        simp only [Bool.false_eq_true, if_false] at z ⊢
        rw [z]
        by_cases hp : p = i
        · subst hp; rw [if_neg (by omega), if_pos (by omega), sI_eq]
        · by_cases h : i ≤ p ∧ p < 50
          · rw [if_pos (by omega), if_pos h, sI_i h1r]
          · rw [if_neg (by omega), if_neg h, sI_k hp]
      | true =>
        rw [if_neg (by decide), gd_nI _ (show i < 50 by omega) (by omega), gd_nI _ (show i < 50 by omega) (by omega)]
        obtain ⟨v', e1, e2, e3, e4, e5⟩ := ih k (i + 1) (sI v ro i (v.1 1 i)) (by omega) (by omega)
        refine ⟨v', e1, fun c hc => by rw [e2 c hc]; exact funext fun j => sI_i hc, fun p => ?_, e4, e5⟩
        have z := e3 p
        simp only [if_true] at z ⊢
        rw [z]
        by_cases hp : p = i
        · subst hp; rw [if_neg (by omega), if_pos (by omega), sI_eq]
        · by_cases h : i ≤ p ∧ p < 50
          · rw [if_pos (by omega), if_pos h, sI_i (fun e => h1r e.symm)]
          · rw [if_neg (by omega), if_neg h, sI_k hp]
/-- what is at hand is kept in a store -/
theorem mv_keep {ro mu : Nat} {v : Mem} (hl : lenM ro = 50) (h1r : ro ≠ 1) (hm : kdM mu = 9) (hlm : lenM mu = 12) (h2 : mu ≠ 2) : ∃ v', F_X7_moveAll v 1 ro mu = some v' ∧ (∀ c, c ≠ ro → v'.1 c = v.1 c) ∧ (∀ c, c ≠ mu → v'.2 c = v.2 c) ∧ ∀ p, p < 12 → vM v' ro mu p = vM v 1 2 p ∧ v'.1 ro 0 = v.1 1 0 ∧ v'.1 ro 1 = v.1 1 1 := by
  obtain ⟨v', e1, e2, e3, e4, e5⟩ := mv_3 hl h1r hm hlm h2 true fu 50 0 v (by omega) (by unfold fu; omega)
  simp only [if_true] at e2 e3 e4 e5
  refine ⟨v', e1, e2, e4, fun p hp => ⟨?_, by rw [e3, if_pos (by omega)], by rw [e3, if_pos (by omega)]⟩⟩
  unfold vM
  rw [e3, e3, e3, e3, if_pos (by omega), if_pos (by omega), if_pos (by omega), if_pos (by omega), e5 p hp]
/-- what was kept in a store comes back -/
theorem mv_back {ro mu : Nat} {v : Mem} (hl : lenM ro = 50) (h1r : ro ≠ 1) (hm : kdM mu = 9) (hlm : lenM mu = 12) (h2 : mu ≠ 2) : ∃ v', F_X7_moveAll v 0 ro mu = some v' ∧ (∀ c, c ≠ 1 → v'.1 c = v.1 c) ∧ (∀ c, c ≠ 2 → v'.2 c = v.2 c) ∧ ∀ p, p < 12 → vM v' 1 2 p = vM v ro mu p ∧ v'.1 1 0 = v.1 ro 0 ∧ v'.1 1 1 = v.1 ro 1 := by
  obtain ⟨v', e1, e2, e3, e4, e5⟩ := mv_3 hl h1r hm hlm h2 false fu 50 0 v (by omega) (by unfold fu; omega)
  simp only [Bool.false_eq_true, if_false] at e2 e3 e4 e5
  refine ⟨v', e1, e2, e4, fun p hp => ⟨?_, by rw [e3, if_pos (by omega)], by rw [e3, if_pos (by omega)]⟩⟩
  unfold vM
  rw [e3, e3, e3, e3, if_pos (by omega), if_pos (by omega), if_pos (by omega), if_pos (by omega), e5 p hp]
/-- the same archive in other places -/
theorem RAr.move {u v u2 v2 : Mem} {t ro mu t2 ro2 mu2 n : Nat} (h : RAr u v t ro mu n) (h1 : u2.1 (t2 + 3) 1 = nI n) (h2 : u2.1 (t2 + 3) 2 = u.1 (t + 3) 2) (h3 : ∀ p, p < n → prC u2 (12 * t2 + 16 + p) = prC u (12 * t + 16 + p)) (h4 : ∀ p, p < 12 → vM v2 ro2 mu2 p = vM v ro mu p ∧ v2.1 ro2 0 = v.1 ro 0 ∧ v2.1 ro2 1 = v.1 ro 1) : RAr u2 v2 t2 ro2 mu2 n := by
  obtain ⟨a, b, c, d, e, f⟩ := h
  obtain ⟨-, z0, z1⟩ := h4 0 (by omega)
  refine ⟨a, h1, by rw [z0]; exact c, by rw [h2, z1]; exact d, by rw [z1]; exact e, fun p hp => ?_⟩
  rw [h3 p hp, (h4 p (by omega)).1]
  exact f p hp
theorem Rel.updK {u v u2 v2 : Mem} (hR : Rel u v) (hK : RKp u2 v2) (hC : ∀ i, i ≠ 0 → i ≠ 5 → (i < 40 ∨ 52 ≤ i) → u2.1 i = u.1 i ∧ u2.2 i = u.2 i) (hM : ∀ i, i ≠ 0 → i ≠ 14 → v2.1 i = v.1 i) (h9 : v2.1 0 9 = v.1 0 9) (hM2 : ∀ i, i ≠ 16 → v2.2 i = v.2 i) : Rel u2 v2 := by
  obtain ⟨⟨n, hA⟩, -, ⟨kk, t1, t2, t3, t4⟩, hS, hF⟩ := hR
  have c : ∀ i, i ≠ 0 → i ≠ 5 → (i < 40 ∨ 52 ≤ i) → u2.1 i = u.1 i := fun i a b d => (hC i a b d).1
  refine ⟨⟨n, hA.congr (by rw [c 4 (by omega) (by omega) (by omega)]) (by rw [c 4 (by omega) (by omega) (by omega)]) (hM 1 (by omega) (by omega)) (fun p _ => by rw [hM2 2 (by omega)]) (fun p hp => ?_)⟩, hK, ⟨kk, t1, by rw [c 15 (by omega) (by omega) (by omega)]; exact t2, by rw [h9]; exact t3, fun j hj => by rw [c 16 (by omega) (by omega) (by omega), hM 9 (by omega) (by omega)]; exact t4 j hj⟩, fun s hs => (hS s hs).congr (c _ (by omega) (by omega) (by omega)) (hC _ (by omega) (by omega) (by omega)).2 (by rw [hM 10 (by omega) (by omega)]) (by rw [hM 11 (by omega) (by omega)]) (fun k _ => by rw [hM2 12 (by omega)]), fun k hk => by rw [c 27 (by omega) (by omega) (by omega), hM 3 (by omega) (by omega)]; exact hF k hk⟩
  have := hA.1
  obtain ⟨g1, g2⟩ := hC (12 * 1 + 16 + p) (by omega) (by omega) (by omega)
  exact prC_eq g1 g2
theorem ST38 : ST_38 Rel := by
  intro u v hR
  obtain ⟨⟨n, hA⟩, -⟩ := id hR
  obtain ⟨hn, hs, -⟩ := id hA
  obtain ⟨u1, e1, p1, p2, p3, p4⟩ := bec_C (t := 2) (t2 := 1) (u := u) (by omega) (by omega) (by omega) (by omega) (by omega) hn hs (fun p hp => by
    have h := (hA.ok hp).2.2.2.1
    rw [← hA.at hp] at h
    exact h)
  obtain ⟨v1, f1, f2, f3, f4⟩ := mv_keep (ro := 14) (mu := 16) (v := v) rfl (by omega) rfl rfl (by omega)
  refine ⟨1, sI u1 0 7 1, sI v1 0 24 1, by unfold F_X6_image; rw [e1, bdV_s], by unfold F_X7_image; rw [f1, bdV_s], ?_⟩
  have hB : RAr u1 v1 2 14 16 n := hA.move p1 p2 p3 f4
  refine hR.updK ⟨by rw [sI_eq, sI_eq], Or.inr ⟨sI_eq, n, hB.congr (sI_i (by decide)) (sI_i (by decide)) (funext fun j => sI_i (by decide)) (fun p _ => rfl) (fun p hp => prC_ne (by omega))⟩⟩ (fun i a b d => ?_) (fun i a b => ?_) ?_ (fun i a => ?_)
  · obtain ⟨g1, g2⟩ := p4 i (by omega) (by omega)
    exact ⟨by rw [← g1]; exact funext fun j => sI_i a, g2⟩
  · rw [← f2 i b]; exact funext fun j => sI_i a
  · rw [sI_k (by decide), f2 0 (by omega)]
  · exact f3 i a
theorem ST39 : ST_39 Rel := by
  intro u v hR
  obtain ⟨⟨n0, hA0⟩, hK, -⟩ := id hR
  rcases hK.2 with h0 | ⟨h1, n, hA⟩
  · refine ⟨-1000000004, tC u 3, tM v 3, ?_, ?_, hR.fd 3 (by omega)⟩
    · unfold F_X6_undo; rw [hK.1, h0, if_pos rfl]; rfl
    · unfold F_X7_undo; rw [h0, if_pos rfl]; rfl
  · obtain ⟨hn, hs, hs2, -⟩ := id hA
    obtain ⟨u1, e1, p1, p2, p3, p4⟩ := bec_C (t := 1) (t2 := 2) (u := u) (by omega) (by omega) (by omega) (by omega) (by omega) hn hs (fun p hp => by
      have h := (hA.ok hp).2.2.2.1
      rw [← (hA.2.2.2.2.2 p hp).1] at h
      exact h)
    obtain ⟨v1, f1, f2, f3, f4⟩ := mv_back (ro := 14) (mu := 16) (v := v) rfl (by omega) rfl rfl (by omega)
    refine ⟨nI n, u1, v1, ?_, ?_, ?_⟩
    · unfold F_X6_undo; rw [hK.1, h1, ite10, e1, bdV_s, p1]
    · unfold F_X7_undo; rw [h1, ite10, f1, bdV_s, gd_c0, cl_0, (f4 0 (by omega)).2.1, hs2]
    · have hB : RAr u1 v1 1 1 2 n := hA.move p1 p2 p3 f4
      exact hR.upd hB (fun i a b => p4 i (by omega) (by omega)) f2 f3
theorem ST40 : ST_40 Rel := by
  intro u v hR
  obtain ⟨-, hK, -⟩ := id hR
  have r : Rel (sI u 0 7 0) (sI v 0 24 0) := hR.updK ⟨by rw [sI_eq, sI_eq], Or.inl sI_eq⟩ (fun i a _ _ => ⟨funext fun j => sI_i a, rfl⟩) (fun i a _ => funext fun j => sI_i a) (sI_k (by decide)) (fun _ _ => rfl)
  rcases hK.2 with h0 | ⟨h1, -⟩
  · exact ⟨0, _, _, by unfold F_X6_tear F_X6_tear_12; rw [hK.1, h0, if_pos rfl], by unfold F_X7_tear F_X7_tear_12; rw [h0, if_pos rfl], r⟩
  · exact ⟨1, _, _, by unfold F_X6_tear F_X6_tear_12; rw [hK.1, h1, ite10], by unfold F_X7_tear F_X7_tear_12; rw [h1, ite10], r⟩
