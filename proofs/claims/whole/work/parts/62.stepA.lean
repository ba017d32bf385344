/-! PURE: calls on one print and on two -/
theorem in_M (v : Mem) (x lo hi : Int32) : F_X7_in v x lo hi = some (bi (decide (¬ x < lo ∧ ¬ hi < x)), v) := by
  unfold F_X7_in F_X7_in_14 F_X7_in_15
  by_cases h1 : x < lo
  · simp [h1, gz, bi]
  · by_cases h2 : hi < x
    · simp [h1, h2, gz, bi]
    · simp [h1, h2, gz, bi]
theorem in_y {v : Mem} {x lo hi : Int32} (h1 : ¬ x < lo) (h2 : ¬ hi < x) : F_X7_in v x lo hi = some (1, v) := by rw [in_M, decide_eq_true ⟨h1, h2⟩]; rfl
theorem in_n {v : Mem} {x lo hi : Int32} (h : x < lo ∨ hi < x) : F_X7_in v x lo hi = some (0, v) := by rw [in_M, decide_eq_false (fun z => h.elim z.1 z.2)]; rfl
theorem ple_lt {n : Nat} {x : Int32} (h : nI (n + 1) ≤ x) (hn : n + 1 < 2 ^ 31) : nI n < x := by
  rw [Int32.lt_iff_toInt_lt, nI_toInt (by omega)]
  rw [Int32.le_iff_toInt_le, nI_toInt hn] at h
  omega
theorem nle_lt {n j : Nat} (hj : j < n + 1) (hn : n + 1 < 2 ^ 31) : ¬ nI n < nI j := nI_nlt (by omega) (by omega)
/-- a range from 0 to N: both ask alike -/
theorem rng (N : Nat) (M : Int32) (hM : nI N = M) (hN : N + 1 < 2 ^ 31) (x : Int32) : (x < 0 ∨ M < x) ∨ ∃ j, j ≤ N ∧ x = nI j := by
  subst hM
  rcases pk_ix x hN with h | h | ⟨j, hj, e⟩
  · exact Or.inl (Or.inl h)
  · exact Or.inl (Or.inr (ple_lt h hN))
  · exact Or.inr ⟨j, by omega, e⟩
theorem ite10 {α : Type} {x y : α} : (if (1 : Int32) = 0 then x else y) = y := rfl
theorem ite00 {α : Type} {x y : α} : (if (0 : Int32) = 0 then x else y) = x := rfl
theorem kd_cases (x : Int32) : (∀ u v : Mem, F_X6_isKind u x = some (0, u) ∧ F_X7_isKind v x = some (0, v)) ∨ ∃ k, k < 6 ∧ x = nI k ∧ ∀ u v : Mem, F_X6_isKind u x = some (1, u) ∧ F_X7_isKind v x = some (1, v) := by
  rcases pk_ix x (n := 6) (by omega) with h | h | ⟨j, hj, e⟩
  · refine Or.inl (fun u v => ⟨?_, ?_⟩)
    · unfold F_X6_isKind F_X6_isKind_14 F_X6_isKind_15; rw [if_pos h]; rfl
    · unfold F_X7_isKind; rw [in_n (Or.inl h)]; rfl
  · refine Or.inl (fun u v => ⟨?_, ?_⟩)
    · unfold F_X6_isKind F_X6_isKind_14 F_X6_isKind_15
      by_cases g : x < 0
      · rw [if_pos g]; rfl
      · rw [if_neg g, if_pos (show (6 : Int32) ≤ x from h)]; rfl
    · unfold F_X7_isKind; rw [in_n (hi := 5) (Or.inr (ple_lt (n := 5) h (by omega)))]; rfl
  · refine Or.inr ⟨j, hj, e, fun u v => ⟨?_, ?_⟩⟩
    · unfold F_X6_isKind F_X6_isKind_15; rw [e, if_neg (nI_pos (by omega)), if_neg (show ¬ (6 : Int32) ≤ nI j from nI_ge (b := 6) hj (by omega))]; rfl
    · unfold F_X7_isKind; rw [e, in_y (hi := 5) (nI_pos (by omega)) (nle_lt (n := 5) hj (by omega))]; rfl
theorem has_in {t n j : Nat} {u : Mem} (h : u.1 (t + 3) 1 = nI n) (hn : n ≤ 12) (hj : j < n) : F_X0_has t u (nI j) = some (1, u) := by
  unfold F_X0_has F_X0_has_17
  rw [if_neg (nI_pos (by omega)), h, if_neg (nI_ge hj (by omega))]
  rfl
theorem has_out {t n : Nat} {u : Mem} {x : Int32} (h : u.1 (t + 3) 1 = nI n) (hx : x < 0 ∨ nI n ≤ x) : F_X0_has t u x = some (0, u) := by
  unfold F_X0_has F_X0_has_16 F_X0_has_17
  by_cases g : x < 0
  · rw [if_pos g]; rfl
  · rw [if_neg g, h, if_pos (hx.resolve_left g)]; rfl
theorem isP_in {n j : Nat} {v : Mem} (h : v.1 1 0 = nI n) (hn : n ≤ 12) (hj : j < n) : F_X7_isPrint v (nI j) = some (1, v) := by
  unfold F_X7_isPrint
  rw [gd_c0, cl_0, h, show nI n - 1 = nI (n - 1) from pk_sub (a := n) (b := 1) (by omega), in_y (nI_pos (by omega)) (nI_nlt (by omega) (by omega))]
  rfl
theorem isP_out {n : Nat} {v : Mem} {x : Int32} (h : v.1 1 0 = nI n) (hn : n ≤ 12) (hx : x < 0 ∨ nI n ≤ x) : F_X7_isPrint v x = some (0, v) := by
  unfold F_X7_isPrint
  rw [gd_c0, cl_0, h]
  have e : x < 0 ∨ nI n - 1 < x := by
    rcases hx with g | g
    · exact Or.inl g
    · refine Or.inr ?_
      rw [Int32.le_iff_toInt_le, nI_toInt (by omega)] at g
      rw [Int32.lt_iff_toInt_lt, show (1 : Int32) = nI 1 from rfl, pk_sub_toInt (by omega) (by omega)]
      omega
  rw [in_n e]
  rfl
/-- a number of a print, or not -/
theorem pr_cases {u v : Mem} {n : Nat} (hA : RAr u v 1 1 2 n) (x : Int32) : (F_X0_has 1 u x = some (0, u) ∧ F_X7_isPrint v x = some (0, v)) ∨ ∃ p, p < n ∧ x = nI p ∧ F_X0_has 1 u x = some (1, u) ∧ F_X7_isPrint v x = some (1, v) := by
  obtain ⟨hn, h1, h2, -⟩ := hA
  rcases pk_ix x (n := n) (by omega) with h | h | ⟨j, hj, e⟩
  · exact Or.inl ⟨has_out h1 (Or.inl h), isP_out h2 hn (Or.inl h)⟩
  · exact Or.inl ⟨has_out h1 (Or.inr h), isP_out h2 hn (Or.inr h)⟩
  · exact Or.inr ⟨j, hj, e, by rw [e]; exact has_in h1 hn hj, by rw [e]; exact isP_in h2 hn hj⟩
theorem RAr.lt {u v : Mem} {t ro mu n p : Nat} (hA : RAr u v t ro mu n) (hp : p < n) : p < 12 := Nat.lt_of_lt_of_le hp hA.1
theorem RAr.at {u v : Mem} {n p : Nat} (hA : RAr u v 1 1 2 n) (hp : p < n) : prC u (28 + p) = vM v 1 2 p := (hA.2.2.2.2.2 p hp).1
theorem RAr.ok {u v : Mem} {t ro mu n p : Nat} (hA : RAr u v t ro mu n) (hp : p < n) : okP (vM v ro mu p) := (hA.2.2.2.2.2 p hp).2
/-- the archive at hand changes, all else stays -/
theorem Rel.upd {u v u2 v2 : Mem} {n : Nat} (hR : Rel u v) (hA : RAr u2 v2 1 1 2 n) (hC : ∀ i, i ≠ 4 → (i < 28 ∨ 40 ≤ i) → u2.1 i = u.1 i ∧ u2.2 i = u.2 i) (hM : ∀ i, i ≠ 1 → v2.1 i = v.1 i) (hM2 : ∀ i, i ≠ 2 → v2.2 i = v.2 i) : Rel u2 v2 := by
  obtain ⟨-, hK, ⟨kk, t1, t2, t3, t4⟩, hS, hF⟩ := hR
  refine ⟨⟨n, hA⟩, ⟨by rw [(hC 0 (by omega) (by omega)).1, hM 0 (by omega)]; exact hK.1, ?_⟩, ⟨kk, t1, by rw [(hC 15 (by omega) (by omega)).1]; exact t2, by rw [hM 0 (by omega)]; exact t3, fun j hj => by rw [(hC 16 (by omega) (by omega)).1, hM 9 (by omega)]; exact t4 j hj⟩, fun s hs => (hS s hs).congr (hC _ (by omega) (by omega)).1 (hC _ (by omega) (by omega)).2 (by rw [hM 10 (by omega)]) (by rw [hM 11 (by omega)]) (fun k _ => by rw [hM2 12 (by omega)]), fun k hk => by rw [(hC 27 (by omega) (by omega)).1, hM 3 (by omega)]; exact hF k hk⟩
  rw [hM 0 (by omega)]
  rcases hK.2 with h | ⟨h, n2, h2⟩
  · exact Or.inl h
  · refine Or.inr ⟨h, n2, h2.congr (by rw [(hC 5 (by omega) (by omega)).1]) (by rw [(hC 5 (by omega) (by omega)).1]) (hM 14 (by omega)) (fun p _ => by rw [hM2 16 (by omega)]) (fun p hp => ?_)⟩
    obtain ⟨g1, g2⟩ := hC (12 * 2 + 16 + p) (by omega) (by omega)
    exact prC_eq g1 g2
/-- one print changes -/
theorem RAr.one {u v u2 v2 : Mem} {n p : Nat} (hA : RAr u v 1 1 2 n) (h4 : u2.1 4 = u.1 4) (h0 : v2.1 1 0 = v.1 1 0) (h1 : v2.1 1 1 = v.1 1 1) (ho : ∀ q, q < n → q ≠ p → prC u2 (28 + q) = prC u (28 + q) ∧ vM v2 1 2 q = vM v 1 2 q) (he : p < n → prC u2 (28 + p) = vM v2 1 2 p ∧ okP (vM v2 1 2 p)) : RAr u2 v2 1 1 2 n := by
  obtain ⟨a, b, c, d, e, f⟩ := hA
  refine ⟨a, by rw [h4]; exact b, by rw [h0]; exact c, by rw [h4, h1]; exact d, by rw [h1]; exact e, fun q hq => ?_⟩
  by_cases hqp : q = p
  · subst hqp; exact he hq
  · obtain ⟨g1, g2⟩ := ho q hq hqp
    show prC u2 (28 + q) = _ ∧ _
    rw [g1, g2]
    exact f q hq
theorem vM_ne {v : Mem} {p q w : Nat} {x : Int32} (h : q ≠ p) (hw : w < 4) : vM (sI v 1 (2 + 4 * p + w) x) 1 2 q = vM v 1 2 q := by
  unfold vM
  rw [sI_k (by omega), sI_k (by omega), sI_k (by omega), sI_k (by omega), sI_2]
theorem vM_neL {v : Mem} {p q : Nat} {x : Int64} (h : q ≠ p) : vM (sL v 2 p x) 1 2 q = vM v 1 2 q := by
  unfold vM
  rw [sL_k h, sL_1]
theorem prC_ne {u : Mem} {x y k : Nat} {z : Int32} (h : y ≠ x) : prC (sI u x k z) y = prC u y := by
  unfold prC
  rw [sI_i h, sI_i h, sI_i h, sI_i h, sI_2]
theorem prC_neL {u : Mem} {x y k : Nat} {z : Int64} (h : y ≠ x) : prC (sL u x k z) y = prC u y := by
  unfold prC
  rw [sL_i h, sL_1]
theorem vM_0 {v : Mem} {p : Nat} {x : Int32} : vM (sI v 1 (2 + 4 * p + 0) x) 1 2 p = (x, (vM v 1 2 p).2) := by
  unfold vM
  rw [show 2 + 4 * p + 0 = 2 + 4 * p from rfl, sI_eq, sI_k (by omega), sI_k (by omega), sI_k (by omega), sI_2]
theorem vM_1 {v : Mem} {p : Nat} {x : Int32} : vM (sI v 1 (2 + 4 * p + 1) x) 1 2 p = ((vM v 1 2 p).1, x, (vM v 1 2 p).2.2) := by
  unfold vM
  rw [show 2 + 4 * p + 1 = 3 + 4 * p by omega, sI_eq, sI_k (by omega), sI_k (by omega), sI_k (by omega), sI_2]
theorem vM_2 {v : Mem} {p : Nat} {x : Int32} : vM (sI v 1 (2 + 4 * p + 2) x) 1 2 p = ((vM v 1 2 p).1, (vM v 1 2 p).2.1, x, (vM v 1 2 p).2.2.2) := by
  unfold vM
  rw [show 2 + 4 * p + 2 = 4 + 4 * p by omega, sI_eq, sI_k (by omega), sI_k (by omega), sI_k (by omega), sI_2]
theorem vM_3 {v : Mem} {p : Nat} {x : Int32} : vM (sI v 1 (2 + 4 * p + 3) x) 1 2 p = ((vM v 1 2 p).1, (vM v 1 2 p).2.1, (vM v 1 2 p).2.2.1, x, (vM v 1 2 p).2.2.2.2) := by
  unfold vM
  rw [show 2 + 4 * p + 3 = 5 + 4 * p by omega, sI_eq, sI_k (by omega), sI_k (by omega), sI_k (by omega), sI_2]
theorem vM_L {v : Mem} {p : Nat} {x : Int64} : vM (sL v 2 p x) 1 2 p = ((vM v 1 2 p).1, (vM v 1 2 p).2.1, (vM v 1 2 p).2.2.1, (vM v 1 2 p).2.2.2.1, x) := by
  unfold vM
  rw [sL_eq, sL_1]
theorem prC_0 {u : Mem} {x : Nat} {z : Int32} : prC (sI u x 0 z) x = (z, (prC u x).2) := by
  unfold prC; rw [sI_eq, sI_k (by decide), sI_k (by decide), sI_k (by decide), sI_2]
theorem prC_1 {u : Mem} {x : Nat} {z : Int32} : prC (sI u x 1 z) x = ((prC u x).1, z, (prC u x).2.2) := by
  unfold prC; rw [sI_eq, sI_k (by decide), sI_k (by decide), sI_k (by decide), sI_2]
theorem prC_2 {u : Mem} {x : Nat} {z : Int32} : prC (sI u x 2 z) x = ((prC u x).1, (prC u x).2.1, z, (prC u x).2.2.2) := by
  unfold prC; rw [sI_eq, sI_k (by decide), sI_k (by decide), sI_k (by decide), sI_2]
theorem prC_3 {u : Mem} {x : Nat} {z : Int32} : prC (sI u x 3 z) x = ((prC u x).1, (prC u x).2.1, (prC u x).2.2.1, z, (prC u x).2.2.2.2) := by
  unfold prC; rw [sI_eq, sI_k (by decide), sI_k (by decide), sI_k (by decide), sI_2]
theorem prC_L {u : Mem} {x : Nat} {z : Int64} : prC (sL u x 4 z) x = ((prC u x).1, (prC u x).2.1, (prC u x).2.2.1, (prC u x).2.2.2.1, z) := by
  unfold prC; rw [sL_eq, sL_1]
/-- one number of one print, written on both sides -/
theorem Rel.seti {u v : Mem} {n p w : Nat} {x : Int32} (hR : Rel u v) (hA : RAr u v 1 1 2 n) (hp : p < n) (hw : w < 4) (he : prC (sI u (28 + p) w x) (28 + p) = vM (sI v 1 (2 + 4 * p + w) x) 1 2 p) (hok : okP (vM (sI v 1 (2 + 4 * p + w) x) 1 2 p)) : Rel (sI u (28 + p) w x) (sI v 1 (2 + 4 * p + w) x) := by
  have hp12 := hA.lt hp
  refine hR.upd (n := n) (hA.one (p := p) (funext fun j => sI_i (by omega)) (sI_k (by omega)) (sI_k (by omega)) (fun q hq hne => ⟨prC_ne (by omega), vM_ne hne hw⟩) (fun _ => ⟨he, hok⟩)) (fun i h1 h2 => ⟨funext fun j => sI_i (by omega), rfl⟩) (fun i h => funext fun j => sI_i h) (fun i h => rfl)
theorem Rel.setl {u v : Mem} {n p : Nat} {x : Int64} (hR : Rel u v) (hA : RAr u v 1 1 2 n) (hp : p < n) (hok : okP (vM (sL v 2 p x) 1 2 p)) : Rel (sL u (28 + p) 4 x) (sL v 2 p x) := by
  have hp12 := hA.lt hp
  refine hR.upd (n := n) (hA.one (p := p) rfl rfl rfl (fun q hq hne => ⟨prC_neL (by omega), vM_neL hne⟩) (fun _ => ⟨?_, hok⟩)) (fun i h1 h2 => ⟨rfl, funext fun j => sL_i (by omega)⟩) (fun i h => rfl) (fun i h => funext fun j => sL_i h)
  rw [prC_L, vM_L, hA.at hp]
theorem xlit2 (x : Int32) : ((x < 0 ∨ 2 < x) ∧ x ≠ 0 ∧ x ≠ 1 ∧ x ≠ 2) ∨ x = 0 ∨ x = 1 ∨ x = 2 := by
  rcases rng 2 2 rfl (by omega) x with h | ⟨j, hj, rfl⟩
  · have e : ∀ k, k ≤ 2 → x ≠ nI k := fun k hk e => by
      rw [e] at h
      rcases h with h | h
      · exact nI_pos (by omega) h
      · exact nI_nlt hk (show (2 : Nat) < 2 ^ 31 by omega) h
    exact Or.inl ⟨h, e 0 (by omega), e 1 (by omega), e 2 (by omega)⟩
  · rcases (show j = 0 ∨ j = 1 ∨ j = 2 by omega) with rfl | rfl | rfl
    · exact Or.inr (Or.inl rfl)
    · exact Or.inr (Or.inr (Or.inl rfl))
    · exact Or.inr (Or.inr (Or.inr (rfl)))
theorem xlit4 (x : Int32) : ((x < 0 ∨ 4 < x) ∧ x ≠ 0 ∧ x ≠ 1 ∧ x ≠ 2 ∧ x ≠ 3 ∧ x ≠ 4) ∨ x = 0 ∨ x = 1 ∨ x = 2 ∨ x = 3 ∨ x = 4 := by
  rcases rng 4 4 rfl (by omega) x with h | ⟨j, hj, rfl⟩
  · have e : ∀ k, k ≤ 4 → x ≠ nI k := fun k hk e => by
      rw [e] at h
      rcases h with h | h
      · exact nI_pos (by omega) h
      · exact nI_nlt hk (show (4 : Nat) < 2 ^ 31 by omega) h
    exact Or.inl ⟨h, e 0 (by omega), e 1 (by omega), e 2 (by omega), e 3 (by omega), e 4 (by omega)⟩
  · rcases (show j = 0 ∨ j = 1 ∨ j = 2 ∨ j = 3 ∨ j = 4 by omega) with rfl | rfl | rfl | rfl | rfl
    · exact Or.inr (Or.inl rfl)
    · exact Or.inr (Or.inr (Or.inl rfl))
    · exact Or.inr (Or.inr (Or.inr (Or.inl rfl)))
    · exact Or.inr (Or.inr (Or.inr (Or.inr (Or.inl rfl))))
    · exact Or.inr (Or.inr (Or.inr (Or.inr (Or.inr (rfl)))))
theorem xlit5 (x : Int32) : ((x < 0 ∨ 5 < x) ∧ x ≠ 0 ∧ x ≠ 1 ∧ x ≠ 2 ∧ x ≠ 3 ∧ x ≠ 4 ∧ x ≠ 5) ∨ x = 0 ∨ x = 1 ∨ x = 2 ∨ x = 3 ∨ x = 4 ∨ x = 5 := by
  rcases rng 5 5 rfl (by omega) x with h | ⟨j, hj, rfl⟩
  · have e : ∀ k, k ≤ 5 → x ≠ nI k := fun k hk e => by
      rw [e] at h
      rcases h with h | h
      · exact nI_pos (by omega) h
      · exact nI_nlt hk (show (5 : Nat) < 2 ^ 31 by omega) h
    exact Or.inl ⟨h, e 0 (by omega), e 1 (by omega), e 2 (by omega), e 3 (by omega), e 4 (by omega), e 5 (by omega)⟩
  · rcases (show j = 0 ∨ j = 1 ∨ j = 2 ∨ j = 3 ∨ j = 4 ∨ j = 5 by omega) with rfl | rfl | rfl | rfl | rfl | rfl
    · exact Or.inr (Or.inl rfl)
    · exact Or.inr (Or.inr (Or.inl rfl))
    · exact Or.inr (Or.inr (Or.inr (Or.inl rfl)))
    · exact Or.inr (Or.inr (Or.inr (Or.inr (Or.inl rfl))))
    · exact Or.inr (Or.inr (Or.inr (Or.inr (Or.inr (Or.inl rfl)))))
    · exact Or.inr (Or.inr (Or.inr (Or.inr (Or.inr (Or.inr (rfl))))))
theorem ST1 : ST_1 Rel := by
  intro u v x1 x2 hR
  obtain ⟨⟨n, hA⟩, -⟩ := id hR
  rcases pr_cases hA x1 with ⟨c, m⟩ | ⟨p, hp, rfl, c, m⟩
  · exact ⟨-1000000001, tC u 0, tM v 0, by simp only [F_X6_of, c, bdI_s, bdL_s, bdV_s, ite10, ite00, gz_0, gz_1, gz_bi, fd_C0, fd_C1, fd_C2, fd_C3, fd_C4, fd_C5, fd_C6, fd_M0, fd_M1, fd_M2, fd_M3, fd_M4, fd_M5, fd_M6, if_true, if_false], by simp only [F_X7_of, F_X7_of_17, m, bdI_s, bdL_s, bdV_s, ite10, ite00, gz_0, gz_1, gz_bi, fd_C0, fd_C1, fd_C2, fd_C3, fd_C4, fd_C5, fd_C6, fd_M0, fd_M1, fd_M2, fd_M3, fd_M4, fd_M5, fd_M6, if_true, if_false], hR.fd 0 (by omega)⟩
  have h12 := hA.lt hp
  have hk := hA.at hp
  have ho := hA.ok hp
  have ek : u.1 (28 + p) 0 = (vM v 1 2 p).1 := by rw [← hk]; rfl
  have ew : u.1 (28 + p) 1 = (vM v 1 2 p).2.1 := by rw [← hk]; rfl
  have ey : u.1 (28 + p) 2 = (vM v 1 2 p).2.2.1 := by rw [← hk]; rfl
  have es : u.1 (28 + p) 3 = (vM v 1 2 p).2.2.2.1 := by rw [← hk]; rfl
  have gC : ∀ {β : Type} (z : Option β), gd (nI p) 12 z = z := fun z => gd_nI z h12 (by omega)
  rcases xlit5 x2 with ⟨h, e0, e1, e2, e3, e4, e5⟩ | rfl | rfl | rfl | rfl | rfl | rfl
  · exact ⟨-1000000001, tC u 0, tM v 0, by simp only [F_X6_of, c, gC, if_neg e0, if_neg e1, if_neg e2, if_neg e3, if_neg e4, if_neg e5, bdI_s, bdL_s, bdV_s, ite10, ite00, gz_0, gz_1, gz_bi, fd_C0, fd_C1, fd_C2, fd_C3, fd_C4, fd_C5, fd_C6, fd_M0, fd_M1, fd_M2, fd_M3, fd_M4, fd_M5, fd_M6, if_true, if_false], by simp only [F_X7_of, F_X7_of_17, m, in_n h, bdI_s, bdL_s, bdV_s, ite10, ite00, gz_0, gz_1, gz_bi, fd_C0, fd_C1, fd_C2, fd_C3, fd_C4, fd_C5, fd_C6, fd_M0, fd_M1, fd_M2, fd_M3, fd_M4, fd_M5, fd_M6, if_true, if_false], hR.fd 0 (by omega)⟩
  · exact ⟨(vM v 1 2 p).1, u, v, by simp [F_X6_of, c, gC, cl_nI h12, ek, bdI_s, bdL_s, bdV_s, ite10, ite00, gz_0, gz_1, gz_bi, fd_C0, fd_C1, fd_C2, fd_C3, fd_C4, fd_C5, fd_C6, fd_M0, fd_M1, fd_M2, fd_M3, fd_M4, fd_M5, fd_M6, if_true, if_false], by simp [F_X7_of, F_X7_of_59, m, in_M, bi, its_M0 h12, bdI_s, bdL_s, bdV_s, ite10, ite00, gz_0, gz_1, gz_bi, fd_C0, fd_C1, fd_C2, fd_C3, fd_C4, fd_C5, fd_C6, fd_M0, fd_M1, fd_M2, fd_M3, fd_M4, fd_M5, fd_M6, if_true, if_false], hR⟩
  · exact ⟨(vM v 1 2 p).2.1, u, v, by simp [F_X6_of, c, gC, cl_nI h12, ew, bdI_s, bdL_s, bdV_s, ite10, ite00, gz_0, gz_1, gz_bi, fd_C0, fd_C1, fd_C2, fd_C3, fd_C4, fd_C5, fd_C6, fd_M0, fd_M1, fd_M2, fd_M3, fd_M4, fd_M5, fd_M6, if_true, if_false], by simp [F_X7_of, F_X7_of_59, m, in_M, bi, its_M1 h12, bdI_s, bdL_s, bdV_s, ite10, ite00, gz_0, gz_1, gz_bi, fd_C0, fd_C1, fd_C2, fd_C3, fd_C4, fd_C5, fd_C6, fd_M0, fd_M1, fd_M2, fd_M3, fd_M4, fd_M5, fd_M6, if_true, if_false], hR⟩
  · exact ⟨(vM v 1 2 p).2.2.1, u, v, by simp [F_X6_of, c, gC, cl_nI h12, ey, bdI_s, bdL_s, bdV_s, ite10, ite00, gz_0, gz_1, gz_bi, fd_C0, fd_C1, fd_C2, fd_C3, fd_C4, fd_C5, fd_C6, fd_M0, fd_M1, fd_M2, fd_M3, fd_M4, fd_M5, fd_M6, if_true, if_false], by simp [F_X7_of, F_X7_of_59, m, in_M, bi, its_M2 h12, bdI_s, bdL_s, bdV_s, ite10, ite00, gz_0, gz_1, gz_bi, fd_C0, fd_C1, fd_C2, fd_C3, fd_C4, fd_C5, fd_C6, fd_M0, fd_M1, fd_M2, fd_M3, fd_M4, fd_M5, fd_M6, if_true, if_false], hR⟩
  · refine ⟨(vM v 1 2 p).2.2.2.1, u, v, ?_, by simp [F_X7_of, F_X7_of_59, m, in_M, bi, its_M3 h12, bdI_s, bdL_s, bdV_s, ite10, ite00, gz_0, gz_1, gz_bi, fd_C0, fd_C1, fd_C2, fd_C3, fd_C4, fd_C5, fd_C6, fd_M0, fd_M1, fd_M2, fd_M3, fd_M4, fd_M5, fd_M6, if_true, if_false], hR⟩
    rcases ho.2.2.2.1 with z | z
    · simp [F_X6_of, F_X6_of_95, c, gC, cl_nI h12, es, z, bdI_s, bdL_s, bdV_s, ite10, ite00, gz_0, gz_1, gz_bi, fd_C0, fd_C1, fd_C2, fd_C3, fd_C4, fd_C5, fd_C6, fd_M0, fd_M1, fd_M2, fd_M3, fd_M4, fd_M5, fd_M6, if_true, if_false]
    · simp [F_X6_of, F_X6_of_95, c, gC, cl_nI h12, es, z, bdI_s, bdL_s, bdV_s, ite10, ite00, gz_0, gz_1, gz_bi, fd_C0, fd_C1, fd_C2, fd_C3, fd_C4, fd_C5, fd_C6, fd_M0, fd_M1, fd_M2, fd_M3, fd_M4, fd_M5, fd_M6, if_true, if_false]
  · exact ⟨twP (vM v 1 2 p), u, v, by simp [F_X6_of, c, gC, cl_nI h12, tw_C, hk, bdI_s, bdL_s, bdV_s, ite10, ite00, gz_0, gz_1, gz_bi, fd_C0, fd_C1, fd_C2, fd_C3, fd_C4, fd_C5, fd_C6, fd_M0, fd_M1, fd_M2, fd_M3, fd_M4, fd_M5, fd_M6, if_true, if_false], by simp [F_X7_of, F_X7_of_59, m, in_M, bi, tw_M h12, bdI_s, bdL_s, bdV_s, ite10, ite00, gz_0, gz_1, gz_bi, fd_C0, fd_C1, fd_C2, fd_C3, fd_C4, fd_C5, fd_C6, fd_M0, fd_M1, fd_M2, fd_M3, fd_M4, fd_M5, fd_M6, if_true, if_false], hR⟩
  · obtain ⟨z, hz, ez⟩ := wb_of (shP (vM v 1 2 p))
    exact ⟨nI (pcF 64 z), u, v, by simp [F_X6_of, c, gC, cl_nI h12, sh_C, hk, ez, bc_C u hz, bdI_s, bdL_s, bdV_s, ite10, ite00, gz_0, gz_1, gz_bi, fd_C0, fd_C1, fd_C2, fd_C3, fd_C4, fd_C5, fd_C6, fd_M0, fd_M1, fd_M2, fd_M3, fd_M4, fd_M5, fd_M6, if_true, if_false], by simp [F_X7_of, F_X7_of_59, m, in_M, bi, sh_M h12 ho, ez, many_M v hz, bdI_s, bdL_s, bdV_s, ite10, ite00, gz_0, gz_1, gz_bi, fd_C0, fd_C1, fd_C2, fd_C3, fd_C4, fd_C5, fd_C6, fd_M0, fd_M1, fd_M2, fd_M3, fd_M4, fd_M5, fd_M6, if_true, if_false], hR⟩
