/-! PURE: counts, sheets -/
def sm (f : Nat → Int32) : Nat → Nat → Int32 → Int32
  | 0, _, c => c
  | k + 1, i, c => sm f k (i + 1) (c + f i)
theorem sm_s (f : Nat → Int32) (k i : Nat) (c : Int32) : sm f (k + 1) i c = sm f k (i + 1) (c + f i) := rfl
theorem sm_congr {f g : Nat → Int32} : ∀ k i c, (∀ j, i ≤ j → j < i + k → f j = g j) → sm f k i c = sm g k i c := by
  intro k
  induction k with
  | zero => intro i c _; rfl
  | succ k ih => intro i c h; unfold sm; rw [h i (by omega) (by omega), ih (i + 1) _ (fun j h1 h2 => h j (by omega) (by omega))]
theorem seen_4 {u : Mem} {n : Nat} (hs : u.1 4 1 = nI n) (hn : n ≤ 12) (hz : ∀ p, p < n → u.1 (28 + p) 3 = 0 ∨ u.1 (28 + p) 3 = 1) : ∀ m k i c, i + k = n → k < m → F_X0_howManySeen_4 m u 1 c (nI i) = some (sm (fun p => u.1 (28 + p) 3) k i c, u) := by
  intro m
  induction m with
  | zero => intro k i c _ h; exact absurd h (by omega)
  | succ m ih =>
    intro k i c h1 h2
    unfold F_X0_howManySeen_4 F_X0_howManySeen_27
    rw [show u.1 (1 + 3) 1 = nI n from hs]
    cases k with
    | zero => rw [if_pos (nI_le (by omega) (by omega))]; rfl
    | succ k =>
      rw [if_neg (nI_ge (by omega) (by omega)), gd_nI _ (show i < 12 by omega) (by omega), cl_nI (show i < 12 by omega), show 12 * 1 + 16 + i = 28 + i by omega, nI_1, ih k (i + 1) _ (by omega) (by omega), ih k (i + 1) _ (by omega) (by omega)]
      rw [sm_s]
      rcases hz i (by omega) with e | e
      · rw [e, if_pos rfl, Int32.add_zero]
      · rw [e, ite10]
theorem seen_45 {v : Mem} {n : Nat} (hs : v.1 1 0 = nI n) (hn : n ≤ 12) : ∀ m k i c, i + k = n → k < m → F_X7_count_45 m v c (nI i) = some (sm (fun p => (vM v 1 2 p).2.2.2.1) k i c, v) := by
  intro m
  induction m with
  | zero => intro k i c _ h; exact absurd h (by omega)
  | succ m ih =>
    intro k i c h1 h2
    unfold F_X7_count_45
    rw [gd_c0, cl_0, hs]
    cases k with
    | zero => rw [if_pos (nI_le (by omega) (by omega))]; rfl
    | succ k =>
      rw [if_neg (nI_ge (by omega) (by omega)), its_M3 (by omega), bdI_s, nI_1, ih k (i + 1) _ (by omega) (by omega)]
      rfl
def pcL (x : Int64) : Int32 := nI (pcF 64 x.toBitVec.toNat)
theorem bc_L (u : Mem) (x : Int64) : F_J13_bitCount_95d88 u x = some (pcL x, u) := by
  obtain ⟨z, hz, rfl⟩ := wb_of x
  rw [bc_C u hz]
  unfold pcL
  rw [wb_tn hz]
theorem many_L (u : Mem) (x : Int64) : F_X7_many u x = some (pcL x, u) := by
  obtain ⟨z, hz, rfl⟩ := wb_of x
  rw [many_M u hz]
  unfold pcL
  rw [wb_tn hz]
theorem mks_4 {u : Mem} {n : Nat} (hs : u.1 4 1 = nI n) (hn : n ≤ 12) : ∀ m k i c, i + k = n → k < m → F_X0_howManyMarks_4 m u 1 c (nI i) = some (sm (fun p => pcL (u.2 (28 + p) 4)) k i c, u) := by
  intro m
  induction m with
  | zero => intro k i c _ h; exact absurd h (by omega)
  | succ m ih =>
    intro k i c h1 h2
    unfold F_X0_howManyMarks_4
    rw [show u.1 (1 + 3) 1 = nI n from hs]
    cases k with
    | zero => rw [if_pos (nI_le (by omega) (by omega))]; rfl
    | succ k =>
      rw [if_neg (nI_ge (by omega) (by omega)), gd_nI _ (show i < 12 by omega) (by omega), cl_nI (show i < 12 by omega), show 12 * 1 + 16 + i = 28 + i by omega, bc_L, bdI_s, nI_1, ih k (i + 1) _ (by omega) (by omega)]
      rfl
theorem mks_86 {v : Mem} {n : Nat} (hs : v.1 1 0 = nI n) (hn : n ≤ 12) : ∀ m k i c, i + k = n → k < m → F_X7_count_86 m v c (nI i) = some (sm (fun p => pcL (v.2 2 p)) k i c, v) := by
  intro m
  induction m with
  | zero => intro k i c _ h; exact absurd h (by omega)
  | succ m ih =>
    intro k i c h1 h2
    unfold F_X7_count_86
    rw [gd_c0, cl_0, hs]
    cases k with
    | zero => rw [if_pos (nI_le (by omega) (by omega))]; rfl
    | succ k =>
      rw [if_neg (nI_ge (by omega) (by omega)), gd_nI _ (show i < 12 by omega) (by omega), cl_nI (show i < 12 by omega), many_L, bdI_s, nI_1, ih k (i + 1) _ (by omega) (by omega)]
      rfl
theorem ST41 : ST_41 Rel := by
  intro u v x1 hR
  obtain ⟨⟨n, hA⟩, -, ⟨k, t1, t2, t3, t4⟩, -⟩ := id hR
  obtain ⟨hn, hs1, hs2, -⟩ := id hA
  have hs1 : u.1 4 1 = nI n := hs1
  rcases xlit4 x1 with ⟨-, e0, e1, e2, e3, e4⟩ | rfl | rfl | rfl | rfl | rfl
  · refine ⟨-1000000001, tC u 0, tM v 0, ?_, ?_, hR.fd 0 (by omega)⟩
    · unfold F_X6_count; rw [if_neg e0, if_neg e1, if_neg e2, if_neg e3, if_neg e4]; rfl
    · unfold F_X7_count; rw [if_neg e0, if_neg e1, if_neg e2, if_neg e3, if_neg e4]; rfl
  · exact ⟨nI n, u, v, by unfold F_X6_count; rw [if_pos rfl, hs1], by unfold F_X7_count; rw [if_pos rfl, gd_c0, cl_0, hs2], hR⟩
  · have a := seen_4 hs1 hn (fun p hp => by
      have h := (hA.ok hp).2.2.2.1
      rw [← hA.at hp] at h
      exact h) fu n 0 0 (by omega) (by unfold fu; omega)
    have b := seen_45 hs2 hn fu n 0 0 (by omega) (by unfold fu; omega)
    have z : nI 0 = (0 : Int32) := rfl
    rw [z] at a b
    have q : sm (fun p => u.1 (28 + p) 3) n 0 0 = sm (fun p => (vM v 1 2 p).2.2.2.1) n 0 0 := sm_congr n 0 0 (fun j _ hj => by
      have h := congrArg (fun z : PV => z.2.2.2.1) (hA.at (show j < n by omega))
      exact h)
    refine ⟨sm (fun p => (vM v 1 2 p).2.2.2.1) n 0 0, u, v, ?_, ?_, hR⟩
    · unfold F_X6_count F_X0_howManySeen
      rw [if_neg (by decide), if_pos rfl, a, bdI_s, q]
    · unfold F_X7_count
      rw [if_neg (by decide), if_pos rfl, b]
  · exact ⟨nI k, u, v, by unfold F_X6_count; rw [if_neg (by decide), if_neg (by decide), if_pos rfl, t2], by unfold F_X7_count; rw [if_neg (by decide), if_neg (by decide), if_pos rfl, t3], hR⟩
  · exact ⟨v.1 1 1, u, v, by unfold F_X6_count; rw [if_neg (by decide), if_neg (by decide), if_neg (by decide), if_pos rfl, hA.sl], by unfold F_X7_count; rw [if_neg (by decide), if_neg (by decide), if_neg (by decide), if_pos rfl, gd_c1, cl_1], hR⟩
  · have a := mks_4 hs1 hn fu n 0 0 (by omega) (by unfold fu; omega)
    have b := mks_86 hs2 hn fu n 0 0 (by omega) (by unfold fu; omega)
    have z : nI 0 = (0 : Int32) := rfl
    rw [z] at a b
    have q : sm (fun p => pcL (u.2 (28 + p) 4)) n 0 0 = sm (fun p => pcL (v.2 2 p)) n 0 0 := sm_congr n 0 0 (fun j _ hj => by
      have h := congrArg (fun z : PV => pcL z.2.2.2.2) (hA.at (show j < n by omega))
      exact h)
    refine ⟨sm (fun p => pcL (v.2 2 p)) n 0 0, u, v, ?_, ?_, hR⟩
    · unfold F_X6_count F_X0_howManyMarks
      rw [if_neg (by decide), if_neg (by decide), if_neg (by decide), if_neg (by decide), if_pos rfl, a, bdI_s, q]
    · unfold F_X7_count
      rw [if_neg (by decide), if_neg (by decide), if_neg (by decide), if_neg (by decide), if_pos rfl, b]
theorem stat_33 (u : Mem) : ∀ m k i c, i + k = 7 → k < m → F_X6_status_33 m u c (nI i) = some (sm (fun j => u.1 27 j) k i c, u) := by
  intro m
  induction m with
  | zero => intro k i c _ h; exact absurd h (by omega)
  | succ m ih =>
    intro k i c h1 h2
    unfold F_X6_status_33
    cases k with
    | zero => rw [if_pos (show (7 : Int32) ≤ nI i from nI_le (a := 7) (by omega) (by omega))]; rfl
    | succ k =>
      rw [if_neg (show ¬ (7 : Int32) ≤ nI i from nI_ge (b := 7) (by omega) (by omega)), gd_nI _ (show i < 7 by omega) (by omega), cl_nI (show i < 12 by omega), nI_1, ih k (i + 1) _ (by omega) (by omega)]
      rfl
theorem stat_21 (v : Mem) (w : Int32) : ∀ m k i c, i + k = 7 → k < m → F_X7_status_21 m v w c (nI i) = if 0 ≤ w then F_X7_status_63 v w else some (sm (fun j => v.1 3 j) k i c, v) := by
  intro m
  induction m with
  | zero => intro k i c _ h; exact absurd h (by omega)
  | succ m ih =>
    intro k i c h1 h2
    unfold F_X7_status_21 F_X7_status_64
    cases k with
    | zero =>
      rw [if_pos (show (7 : Int32) ≤ nI i from nI_le (a := 7) (by omega) (by omega))]
      by_cases h : 0 ≤ w
      · rw [if_pos h, if_pos h, if_pos h]
      · rw [if_neg h, if_neg h]; rfl
    | succ k =>
      rw [if_neg (show ¬ (7 : Int32) ≤ nI i from nI_ge (b := 7) (by omega) (by omega)), gd_nI _ (show i < 7 by omega) (by omega), cl_nI (show i < 12 by omega), nI_1, ih k (i + 1) _ (by omega) (by omega)]
      rfl
theorem ST42 : ST_42 Rel := by
  intro u v x1 hR
  obtain ⟨-, -, -, -, hF⟩ := id hR
  by_cases h1 : x1 < -1
  · exact ⟨-1000000001, tC u 0, tM v 0, by unfold F_X6_status F_X6_status_11; rw [if_pos h1]; rfl, by unfold F_X7_status; rw [in_n (Or.inl h1)]; rfl, hR.fd 0 (by omega)⟩
  by_cases h2 : 6 < x1
  · have h3 : ¬ x1 < 7 := fun z => by
      rw [Int32.lt_iff_toInt_lt] at z h2
      rw [show (7 : Int32).toInt = 7 from rfl] at z
      rw [show (6 : Int32).toInt = 6 from rfl] at h2
      omega
    exact ⟨-1000000001, tC u 0, tM v 0, by unfold F_X6_status F_X6_status_11; rw [if_neg h1, if_neg h3]; rfl, by unfold F_X7_status; rw [in_n (Or.inr h2)]; rfl, hR.fd 0 (by omega)⟩
  have h3 : x1 < 7 := by
    rw [Int32.lt_iff_toInt_lt] at h2 ⊢
    rw [show (6 : Int32).toInt = 6 from rfl] at h2
    rw [show (7 : Int32).toInt = 7 from rfl]
    omega
  have s1 := stat_33 u fu 7 0 0 (by omega) (by unfold fu; omega)
  have s2 := stat_21 v x1 fu 7 0 0 (by omega) (by unfold fu; omega)
  have z : nI 0 = (0 : Int32) := rfl
  rw [z] at s1 s2
  by_cases h0 : x1 < 0
  · have g0 : ¬ 0 ≤ x1 := fun z => by
      rw [Int32.lt_iff_toInt_lt] at h0
      rw [Int32.le_iff_toInt_le] at z
      omega
    refine ⟨sm (fun j => v.1 3 j) 7 0 0, u, v, ?_, ?_, hR⟩
    · unfold F_X6_status
      rw [if_neg h1, if_pos h3, if_pos h0, s1, sm_congr 7 0 0 (fun j _ hj => hF j (by omega))]
    · unfold F_X7_status
      rw [in_y h1 h2, bdI_s, ite10, s2, if_neg g0]
  · obtain ⟨j, hj, rfl⟩ : ∃ j, j < 7 ∧ x1 = nI j := by
      rcases pk_ix x1 (n := 7) (by omega) with g | g | ⟨j, hj, e⟩
      · exact absurd g h0
      · exact absurd h3 (fun z => absurd (Int32.lt_of_lt_of_le z g) Int32.lt_irrefl)
      · exact ⟨j, hj, e⟩
    refine ⟨v.1 3 j, u, v, ?_, ?_, hR⟩
    · unfold F_X6_status
      rw [if_neg h1, if_pos h3, if_neg h0, gd_nI _ hj (by omega), cl_nI (by omega), hF j hj]
    · unfold F_X7_status
      rw [in_y h1 h2, bdI_s, ite10, s2, if_pos (nI_pos' (by omega))]
      unfold F_X7_status_63 F_X7_status_64
      rw [gd_nI _ hj (by omega), cl_nI (by omega)]
/-! sheets -/
theorem sh_cases (x : Int32) : (∀ u v : Mem, F_X6_isSheet u x = some (0, u) ∧ F_X7_isSheet v x = some (0, v)) ∨ ∃ s, s < 4 ∧ x = nI s ∧ ∀ u v : Mem, F_X6_isSheet u x = some (1, u) ∧ F_X7_isSheet v x = some (1, v) := by
  rcases pk_ix x (n := 4) (by omega) with h | h | ⟨j, hj, rfl⟩
  · exact Or.inl (fun u v => ⟨by simp [F_X6_isSheet, F_X6_isSheet_13, F_X6_isSheet_14, h, ite10, ite00, bdI_s, bdL_s, bdV_s, gz_0, gz_1, gz_bi, fd_C0, fd_C1, fd_C2, fd_C3, fd_C4, fd_C5, fd_C6, fd_M0, fd_M1, fd_M2, fd_M3, fd_M4, fd_M5, fd_M6, if_true, if_false], by unfold F_X7_isSheet; rw [in_n (Or.inl h)]; rfl⟩)
  · refine Or.inl (fun u v => ⟨?_, by unfold F_X7_isSheet; rw [in_n (hi := 3) (Or.inr (ple_lt (n := 3) h (by omega)))]; rfl⟩)
    by_cases h1 : x < 0
    · simp [F_X6_isSheet, F_X6_isSheet_13, F_X6_isSheet_14, h1, ite10, ite00, bdI_s, bdL_s, bdV_s, gz_0, gz_1, gz_bi, fd_C0, fd_C1, fd_C2, fd_C3, fd_C4, fd_C5, fd_C6, fd_M0, fd_M1, fd_M2, fd_M3, fd_M4, fd_M5, fd_M6, if_true, if_false]
    · simp [F_X6_isSheet, F_X6_isSheet_13, F_X6_isSheet_14, h1, show (4 : Int32) ≤ x from h, ite10, ite00, bdI_s, bdL_s, bdV_s, gz_0, gz_1, gz_bi, fd_C0, fd_C1, fd_C2, fd_C3, fd_C4, fd_C5, fd_C6, fd_M0, fd_M1, fd_M2, fd_M3, fd_M4, fd_M5, fd_M6, if_true, if_false]
  · have h1 : ¬ nI j < 0 := nI_pos (by omega)
    have h2 : ¬ (4 : Int32) ≤ nI j := nI_ge (b := 4) hj (by omega)
    exact Or.inr ⟨j, hj, rfl, fun u v => ⟨by simp [F_X6_isSheet, F_X6_isSheet_14, h1, h2, ite10, ite00, bdI_s, bdL_s, bdV_s, gz_0, gz_1, gz_bi, fd_C0, fd_C1, fd_C2, fd_C3, fd_C4, fd_C5, fd_C6, fd_M0, fd_M1, fd_M2, fd_M3, fd_M4, fd_M5, fd_M6, if_true, if_false], by unfold F_X7_isSheet; rw [in_y (hi := 3) h1 (nle_lt (n := 3) hj (by omega))]; rfl⟩⟩
theorem Rel.updS {u v u2 v2 : Mem} {s : Nat} (hR : Rel u v) (hs : s < 4) (hS2 : RSh u2 v2 s) (hC1 : ∀ i, i ≠ s + 19 → u2.1 i = u.1 i) (hC2 : ∀ i, i ≠ s + 23 → u2.2 i = u.2 i) (hM1 : ∀ i, i ≠ 10 → i ≠ 11 → v2.1 i = v.1 i) (hMs : ∀ j, j ≠ s → v2.1 10 j = v.1 10 j ∧ v2.1 11 j = v.1 11 j) (hM2 : ∀ i, i ≠ 12 → i ≠ 13 → v2.2 i = v.2 i) (hM12 : ∀ k, (k < 40 * s ∨ 40 * s + 40 ≤ k) → v2.2 12 k = v.2 12 k) : Rel u2 v2 := by
  obtain ⟨⟨n, hA⟩, hK, ⟨kk, t1, t2, t3, t4⟩, hS, hF⟩ := hR
  have a := hA.1
  refine ⟨⟨n, hA.congr (by rw [hC1 4 (by omega)]) (by rw [hC1 4 (by omega)]) (hM1 1 (by omega) (by omega)) (fun p _ => by rw [hM2 2 (by omega) (by omega)]) (fun p hp => prC_eq (hC1 _ (by omega)) (hC2 _ (by omega)))⟩, ⟨by rw [hC1 0 (by omega), hM1 0 (by omega) (by omega)]; exact hK.1, ?_⟩, ⟨kk, t1, by rw [hC1 15 (by omega)]; exact t2, by rw [hM1 0 (by omega) (by omega)]; exact t3, fun j hj => by rw [hC1 16 (by omega), hM1 9 (by omega) (by omega)]; exact t4 j hj⟩, fun s2 hs2 => ?_, fun k hk => by rw [hC1 27 (by omega), hM1 3 (by omega) (by omega)]; exact hF k hk⟩
  · rw [hM1 0 (by omega) (by omega)]
    rcases hK.2 with h | ⟨h, n2, h2⟩
    · exact Or.inl h
    · have b := h2.1
      exact Or.inr ⟨h, n2, h2.congr (by rw [hC1 5 (by omega)]) (by rw [hC1 5 (by omega)]) (hM1 14 (by omega) (by omega)) (fun p _ => by rw [hM2 16 (by omega) (by omega)]) (fun p hp => prC_eq (hC1 _ (by omega)) (hC2 _ (by omega)))⟩
  · by_cases e : s2 = s
    · subst e; exact hS2
    · exact (hS s2 hs2).congr (hC1 _ (by omega)) (hC2 _ (by omega)) (hMs s2 e).1 (hMs s2 e).2 (fun k hk => hM12 _ (by omega))
theorem lay_12 {t : Nat} : ∀ (m k i : Nat) (u : Mem), i + k = 40 → k < m → ∃ u', F_X3_lay_12 m u t (nI i) = some u' ∧ u'.1 = u.1 ∧ (∀ c, c ≠ t + 23 → u'.2 c = u.2 c) ∧ ∀ j, u'.2 (t + 23) j = if i ≤ j ∧ j < 40 then 0 else u.2 (t + 23) j := by
  intro m
  induction m with
  | zero => intro k i u _ h; exact absurd h (by omega)
  | succ m ih =>
    intro k i u h1 hk
    unfold F_X3_lay_12
    cases k with
    | zero => exact ⟨u, by rw [if_pos (show (40 : Int32) ≤ nI i from nI_le (a := 40) (by omega) (by omega))], rfl, fun _ _ => rfl, fun j => by rw [if_neg (show ¬ (i ≤ j ∧ j < 40) by omega)]⟩
    | succ k =>
      rw [if_neg (show ¬ (40 : Int32) ≤ nI i from nI_ge (b := 40) (by omega) (by omega)), gd_nI _ (show i < 40 by omega) (by omega), nI_clamp (show i < 2 ^ 31 by omega), nI_1]
      obtain ⟨u', e1, e2, e3, e4⟩ := ih k (i + 1) (sL u (t + 23) i 0) (by omega) (by omega)
      refine ⟨u', e1, e2, fun c hc => by rw [e3 c hc]; exact funext fun j => sL_i hc, fun j => ?_⟩
      rw [e4 j]
      by_cases hj : j = i
      · subst hj; rw [if_neg (show ¬ (j + 1 ≤ j ∧ j < 40) by omega), if_pos (show j ≤ j ∧ j < 40 by omega), sL_eq]
      · by_cases h : i ≤ j ∧ j < 40
        · rw [if_pos (show i + 1 ≤ j ∧ j < 40 by omega), if_pos h]
        · rw [if_neg (show ¬ (i + 1 ≤ j ∧ j < 40) by omega), if_neg h, sL_k hj]
theorem ix40 {s i : Nat} : (40 : Int32) * nI s + nI i = nI (40 * s + i) := by rw [show (40 : Int32) = nI 40 from rfl, pk_mul, nI_add]
theorem lay_85 {s : Nat} (hs : s < 4) : ∀ (m k i : Nat) (v : Mem), i + k = 40 → k < m → ∃ v', F_X7_sheet_85 m v (nI s) (nI i) = some (v.1 11 s, v') ∧ v'.1 = v.1 ∧ (∀ c, c ≠ 12 → v'.2 c = v.2 c) ∧ ∀ j, v'.2 12 j = if 40 * s + i ≤ j ∧ j < 40 * s + 40 then 0 else v.2 12 j := by
  intro m
  induction m with
  | zero => intro k i u _ h; exact absurd h (by omega)
  | succ m ih =>
    intro k i v h1 hk
    unfold F_X7_sheet_85
    cases k with
    | zero => exact ⟨v, by rw [if_pos (show (40 : Int32) ≤ nI i from nI_le (a := 40) (by omega) (by omega)), gd_nI _ hs (by omega), cl_nI (by omega)], rfl, fun _ _ => rfl, fun j => by rw [if_neg (show ¬ (40 * s + i ≤ j ∧ j < 40 * s + 40) by omega)]⟩
    | succ k =>
      rw [if_neg (show ¬ (40 : Int32) ≤ nI i from nI_ge (b := 40) (by omega) (by omega)), ix40, gd_nI _ (show 40 * s + i < 160 by omega) (by omega), nI_clamp (show 40 * s + i < 2 ^ 31 by omega), nI_1]
      obtain ⟨v', e1, e2, e3, e4⟩ := ih k (i + 1) (sL v 12 (40 * s + i) 0) (by omega) (by omega)
      refine ⟨v', e1, e2, fun c hc => by rw [e3 c hc]; exact funext fun j => sL_i hc, fun j => ?_⟩
      rw [e4 j]
      by_cases hj : j = 40 * s + i
      · subst hj; rw [if_neg (show ¬ (40 * s + (i + 1) ≤ 40 * s + i ∧ 40 * s + i < 40 * s + 40) by omega), if_pos (show 40 * s + i ≤ 40 * s + i ∧ 40 * s + i < 40 * s + 40 by omega), sL_eq]
      · by_cases h : 40 * s + i ≤ j ∧ j < 40 * s + 40
        · rw [if_pos (show 40 * s + (i + 1) ≤ j ∧ j < 40 * s + 40 by omega), if_pos h]
        · rw [if_neg (show ¬ (40 * s + (i + 1) ≤ j ∧ j < 40 * s + 40) by omega), if_neg h, sL_k hj]
/-- a sheet is laid anew, on both sides -/
theorem lay_both {u v : Mem} {s : Nat} {b : Int32} {n : Nat} (hR : Rel u v) (hs : s < 4) (hb : b = 0 ∨ b = 8 ∨ b = 16 ∨ b = 64) (hn : n ≤ 40) : ∃ u' v', F_X3_lay s u b (nI n) = some u' ∧ F_X7_sheet_85 fu (sI (sI v 10 s b) 11 s (nI n)) (nI s) 0 = some (nI n, v') ∧ Rel u' v' := by
  obtain ⟨u', a1, a2, a3, a4⟩ := lay_12 (t := s) fu 40 0 (sI (sI u (s + 19) 1 b) (s + 19) 2 (nI n)) (by omega) (by unfold fu; omega)
  obtain ⟨v', b1, b2, b3, b4⟩ := lay_85 hs fu 40 0 (sI (sI v 10 s b) 11 s (nI n)) (by omega) (by unfold fu; omega)
  have z : nI 0 = (0 : Int32) := rfl
  rw [z] at a1 b1
  rw [sI_eq] at b1
  refine ⟨u', v', a1, b1, hR.updS hs ⟨?_, ?_, ⟨n, hn, ?_, ?_⟩, fun k hk => ?_⟩ (fun i hi => ?_) (fun i hi => ?_) (fun i h1 h2 => ?_) (fun j hj => ⟨?_, ?_⟩) (fun i h1 h2 => ?_) (fun k hk => ?_)⟩
  · rw [a2, b2, sI_k (by decide), sI_eq, sI_i (by decide), sI_eq]
  · rw [b2, sI_i (by decide), sI_eq]; exact hb
  · rw [a2, sI_eq]
  · rw [b2, sI_eq]
  · rw [a4 k, b4, if_pos (by omega), if_pos (by omega)]
  · rw [a2]; exact funext fun j => by rw [sI_i hi, sI_i hi]
  · rw [a3 i hi]; rfl
  · rw [b2]; exact funext fun j => by rw [sI_i h2, sI_i h1]
  · rw [b2, sI_i (by decide), sI_k hj]
  · rw [b2, sI_k hj, sI_i (by decide)]
  · rw [b3 i h1]; rfl
  · rw [b4 k, if_neg (by omega)]; rfl
theorem ST32 : ST_32 Rel := by
  intro u v x1 x2 x3 hR
  rcases sh_cases x1 with hw | ⟨s, hs, rfl, hw⟩
  · exact ⟨-1000000001, tC u 0, tM v 0, by unfold F_X6_sheet F_X6_sheet_14; rw [(hw u v).1]; rfl, by unfold F_X7_sheet F_X7_sheet_29; rw [(hw u v).2]; rfl, hR.fd 0 (by omega)⟩
  by_cases hb : x2 = 0 ∨ x2 = 8 ∨ x2 = 16 ∨ x2 = 64
  · have cb : F_X6_isBits u x2 = some (1, u) := by rcases hb with rfl | rfl | rfl | rfl <;> rfl
    have mb : ∀ x3, F_X7_sheet v (nI s) x2 x3 = F_X7_sheet_36 v (nI s) x2 x3 := fun x3 => by
      unfold F_X7_sheet
      rw [(hw u v).2, bdI_s, ite10]
      rcases hb with rfl | rfl | rfl | rfl <;> rfl
    by_cases h0 : 0 ≤ x3
    · by_cases h4 : x3 ≤ 40
      · obtain ⟨j, hj, rfl⟩ : ∃ j, j ≤ 40 ∧ x3 = nI j := by
          rcases rng 40 40 rfl (by omega) x3 with (g | g) | g
          · rw [Int32.le_iff_toInt_le] at h0
            rw [Int32.lt_iff_toInt_lt] at g
            omega
          · rw [Int32.le_iff_toInt_le] at h4
            rw [Int32.lt_iff_toInt_lt] at g
            omega
          · exact g
        by_cases e : x2 = 0
        · subst e
          obtain ⟨u', v', f1, f2, f3⟩ := lay_both (n := 0) hR hs hb (by omega)
          have z : nI 0 = (0 : Int32) := rfl
          rw [z] at f1 f2
          refine ⟨0, u', v', ?_, ?_, f3⟩
          · unfold F_X6_sheet F_X6_sheet_54
            rw [(hw u v).1, bdI_s, ite10, cb, bdI_s, ite10, if_pos h0, if_pos h4, if_pos rfl, gd_nI _ hs (by omega), cl_nI (by omega), f1, bdV_s]
          · rw [mb]
            unfold F_X7_sheet_36 F_X7_sheet_81
            rw [if_pos h0, if_pos h4, gd_nI _ hs (by omega), if_pos rfl, gd_nI _ hs (by omega), cl_nI (by omega), f2]
        · obtain ⟨u', v', f1, f2, f3⟩ := lay_both (n := j) hR hs hb hj
          refine ⟨nI j, u', v', ?_, ?_, f3⟩
          · unfold F_X6_sheet F_X6_sheet_54
            rw [(hw u v).1, bdI_s, ite10, cb, bdI_s, ite10, if_pos h0, if_pos h4, if_neg e, gd_nI _ hs (by omega), cl_nI (by omega), f1, bdV_s]
          · rw [mb]
            unfold F_X7_sheet_36 F_X7_sheet_81
            rw [if_pos h0, if_pos h4, gd_nI _ hs (by omega), if_neg e, gd_nI _ hs (by omega), cl_nI (by omega), f2]
      · refine ⟨-1000000001, tC u 0, tM v 0, ?_, ?_, hR.fd 0 (by omega)⟩
        · unfold F_X6_sheet
          rw [(hw u v).1, bdI_s, ite10, cb, bdI_s, ite10, if_pos h0, if_neg h4]; rfl
        · rw [mb]
          unfold F_X7_sheet_36
          rw [if_pos h0, if_neg h4]; rfl
    · refine ⟨-1000000007, tC u 6, tM v 6, ?_, ?_, hR.fd 6 (by omega)⟩
      · unfold F_X6_sheet
        rw [(hw u v).1, bdI_s, ite10, cb, bdI_s, ite10, if_neg h0]; rfl
      · rw [mb]
        unfold F_X7_sheet_36
        rw [if_neg h0]; rfl
  · have e0 : ¬ x2 = 0 := fun z => hb (Or.inl z)
    have e8 : ¬ x2 = 8 := fun z => hb (Or.inr (Or.inl z))
    have e16 : ¬ x2 = 16 := fun z => hb (Or.inr (Or.inr (Or.inl z)))
    have e64 : ¬ x2 = 64 := fun z => hb (Or.inr (Or.inr (Or.inr z)))
    refine ⟨-1000000001, tC u 0, tM v 0, ?_, ?_, hR.fd 0 (by omega)⟩
    · unfold F_X6_sheet F_X6_sheet_14 F_X6_isBits F_X6_isBits_27
      rw [(hw u v).1, bdI_s, ite10, if_neg e0, if_neg e8, if_neg e16, if_neg e64]; rfl
    · unfold F_X7_sheet F_X7_sheet_29
      rw [(hw u v).2, bdI_s, ite10, if_neg e0, if_neg e8, if_neg e16, if_neg e64]; rfl
