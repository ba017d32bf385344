/-! PURE: a new print; orders of two; casts -/
theorem vM_h {v : Mem} {p : Nat} {z : Int32} {k : Nat} (hk : k < 2) : vM (sI v 1 k z) 1 2 p = vM v 1 2 p := by
  unfold vM
  rw [sI_k (by omega), sI_k (by omega), sI_k (by omega), sI_k (by omega), sI_2]
def nwC (u : Mem) (n : Nat) (k : Int32) (mk : Int64) : Mem := sI (sL (sI (sI (sI (sI u (28 + n) 0 k) (28 + n) 1 1000) (28 + n) 2 0) (28 + n) 3 0) (28 + n) 4 (mk &&& 1099511627775)) 4 1 (nI (n + 1))
def nwM (v : Mem) (n : Nat) (k : Int32) (mk : Int64) (w y s : Int32) : Mem := sI (sI (sI (sI (sI (sL v 2 n (mk &&& 1099511627775)) 1 (2 + 4 * n + 0) k) 1 (2 + 4 * n + 1) w) 1 (2 + 4 * n + 2) y) 1 (2 + 4 * n + 3) s) 1 0 (nI (n + 1))
theorem add_M {v : Mem} {n : Nat} (h0 : v.1 1 0 = nI n) (hn : n < 12) (k : Int32) (mk : Int64) (w y s : Int32) : F_X7_addPrint v k mk w y s = some (nwM v n k mk w y s) := by
  have s0 := fun (z : Mem) (x : Int32) => sets_M (v := z) (w := 0) (x := x) hn (by omega)
  have s1 := fun (z : Mem) (x : Int32) => sets_M (v := z) (w := 1) (x := x) hn (by omega)
  have s2 := fun (z : Mem) (x : Int32) => sets_M (v := z) (w := 2) (x := x) hn (by omega)
  have s3 := fun (z : Mem) (x : Int32) => sets_M (v := z) (w := 3) (x := x) hn (by omega)
  rw [show nI 0 = (0 : Int32) from rfl] at s0
  rw [show nI 1 = (1 : Int32) from rfl] at s1
  rw [show nI 2 = (2 : Int32) from rfl] at s2
  rw [show nI 3 = (3 : Int32) from rfl] at s3
  unfold F_X7_addPrint nwM
  simp only [gd_c0, cl_0, h0, gd_nI _ hn (show 12 < 2 ^ 31 by omega), cl_nI hn, s0, s1, s2, s3, ite10, ite00, bdI_s, bdL_s, bdV_s, gz_0, gz_1, gz_bi, fd_C0, fd_C1, fd_C2, fd_C3, fd_C4, fd_C5, fd_C6, fd_M0, fd_M1, fd_M2, fd_M3, fd_M4, fd_M5, fd_M6, if_true, if_false]
  rw [sI_k (show (0 : Nat) ≠ 2 + 4 * n + 3 by omega), sI_k (show (0 : Nat) ≠ 2 + 4 * n + 2 by omega), sI_k (show (0 : Nat) ≠ 2 + 4 * n + 1 by omega), sI_k (show (0 : Nat) ≠ 2 + 4 * n + 0 by omega), sL_1, h0, nI_1]
theorem hang_C {u : Mem} {n : Nat} (h0 : u.1 4 1 = nI n) (hn : n < 12) (k : Int32) (mk : Int64) : F_X0_hang 1 u k mk = some (nI n, nwC u n k mk) := by
  have hf : F_X0_isFull 1 u = some (0, u) := by
    unfold F_X0_isFull F_X0_isFull_14
    rw [show u.1 (1 + 3) 1 = nI n from h0, if_pos (show nI n < (12 : Int32) from nI_lt (b := 12) hn (by omega))]
    rfl
  unfold F_X0_hang F_X1_begin nwC
  simp only [hf, show u.1 (1 + 3) 1 = nI n from h0, gd_nI _ hn (show 12 < 2 ^ 31 by omega), cl_nI hn, ite10, ite00, bdI_s, bdL_s, bdV_s, gz_0, gz_1, gz_bi, fd_C0, fd_C1, fd_C2, fd_C3, fd_C4, fd_C5, fd_C6, fd_M0, fd_M1, fd_M2, fd_M3, fd_M4, fd_M5, fd_M6, if_true, if_false]
  rw [show 12 * 1 + 16 + n = 28 + n by omega, show (1 : Nat) + 3 = 4 from rfl]
  rw [sI_eq, sL_1, sI_i (show (4 : Nat) ≠ 28 + n by omega), sI_i (show (4 : Nat) ≠ 28 + n by omega), sI_i (show (4 : Nat) ≠ 28 + n by omega), sI_i (show (4 : Nat) ≠ 28 + n by omega), h0, nI_1, nI_pred]
theorem prC_nw {u : Mem} {n p : Nat} {k : Int32} {mk : Int64} : prC (nwC u n k mk) (28 + p) = if p = n then (k, 1000, 0, 0, mk &&& 1099511627775) else prC u (28 + p) := by
  unfold nwC
  rw [prC_ne (by omega)]
  by_cases h : p = n
  · subst h; rw [if_pos rfl, prC_L, prC_3, prC_2, prC_1, prC_0]
  · rw [if_neg h, prC_neL (by omega), prC_ne (by omega), prC_ne (by omega), prC_ne (by omega), prC_ne (by omega)]
theorem vM_nw {v : Mem} {n p : Nat} {k w y s : Int32} {mk : Int64} : vM (nwM v n k mk w y s) 1 2 p = if p = n then (k, w, y, s, mk &&& 1099511627775) else vM v 1 2 p := by
  unfold nwM
  rw [vM_h (by omega)]
  by_cases h : p = n
  · subst h; rw [if_pos rfl, vM_3, vM_2, vM_1, vM_0, vM_L]
  · rw [if_neg h, vM_ne h (by omega), vM_ne h (by omega), vM_ne h (by omega), vM_ne h (by omega), vM_neL h]
theorem and_idem (mk : Int64) : (mk &&& 1099511627775) &&& 1099511627775 = mk &&& 1099511627775 := by
  apply b6_ext
  intro i hi
  simp only [b6_and]
  cases b6 mk i <;> cases b6 1099511627775 i <;> rfl
theorem RAr.nw {u v : Mem} {n : Nat} {k : Int32} {mk : Int64} (hA : RAr u v 1 1 2 n) (hn : n < 12) (hk : ∃ j, j < 6 ∧ k = nI j) : RAr (nwC u n k mk) (nwM v n k mk 1000 0 0) 1 1 2 (n + 1) := by
  obtain ⟨a, b, c, d, e, f⟩ := hA
  have e4 : ∀ j, j ≠ 1 → (nwC u n k mk).1 4 j = u.1 4 j := fun j hj => by
    unfold nwC
    rw [sI_k hj, sL_1, sI_i (show (4 : Nat) ≠ 28 + n by omega), sI_i (show (4 : Nat) ≠ 28 + n by omega), sI_i (show (4 : Nat) ≠ 28 + n by omega), sI_i (show (4 : Nat) ≠ 28 + n by omega)]
  have m1 : (nwM v n k mk 1000 0 0).1 1 1 = v.1 1 1 := by
    unfold nwM
    rw [sI_k (by decide), sI_k (by omega), sI_k (by omega), sI_k (by omega), sI_k (by omega), sL_1]
  refine ⟨by omega, ?_, ?_, ?_, ?_, fun p hp => ?_⟩
  · unfold nwC; rw [sI_eq]
  · unfold nwM; rw [sI_eq]
  · rw [e4 2 (by decide), m1]; exact d
  · rw [m1]; exact e
  · rw [show 12 * 1 + 16 + p = 28 + p by omega, prC_nw, vM_nw]
    by_cases h : p = n
    · rw [if_pos h, if_pos h]
      exact ⟨rfl, hk, ⟨1000, by omega, by omega, rfl⟩, ⟨0, by omega, rfl⟩, Or.inl rfl, and_idem mk⟩
    · rw [if_neg h, if_neg h]
      exact f p (by omega)
theorem Rel.nw {u v : Mem} {n : Nat} {k : Int32} {mk : Int64} (hR : Rel u v) (hA : RAr u v 1 1 2 n) (hn : n < 12) (hk : ∃ j, j < 6 ∧ k = nI j) : Rel (nwC u n k mk) (nwM v n k mk 1000 0 0) := by
  refine hR.upd (hA.nw hn hk) (fun i h1 h2 => ⟨funext fun j => ?_, funext fun j => ?_⟩) (fun i h => funext fun j => ?_) (fun i h => funext fun j => ?_)
  · unfold nwC
    rw [sI_i h1, sL_1, sI_i (by omega), sI_i (by omega), sI_i (by omega), sI_i (by omega)]
  · unfold nwC
    rw [sI_2, sL_i (by omega)]
    rfl
  · unfold nwM
    rw [sI_i h, sI_i h, sI_i h, sI_i h, sI_i h, sL_1]
  · unfold nwM
    simp only [sI_2]
    rw [sL_i h]
theorem ST0 : ST_0 Rel := by
  intro u v x1 x2 hR
  obtain ⟨⟨n, hA⟩, -⟩ := id hR
  obtain ⟨a, b, c, -⟩ := id hA
  rcases kd_cases x1 with hw | ⟨k, k1, rfl, hw⟩
  · exact ⟨-1000000001, tC u 0, tM v 0, by simp [F_X6_print, (hw u v).1, ite10, ite00, bdI_s, bdL_s, bdV_s, gz_0, gz_1, gz_bi, fd_C0, fd_C1, fd_C2, fd_C3, fd_C4, fd_C5, fd_C6, fd_M0, fd_M1, fd_M2, fd_M3, fd_M4, fd_M5, fd_M6, if_true, if_false], by simp [F_X7_print, (hw u v).2, ite10, ite00, bdI_s, bdL_s, bdV_s, gz_0, gz_1, gz_bi, fd_C0, fd_C1, fd_C2, fd_C3, fd_C4, fd_C5, fd_C6, fd_M0, fd_M1, fd_M2, fd_M3, fd_M4, fd_M5, fd_M6, if_true, if_false], hR.fd 0 (by omega)⟩
  by_cases hn : n = 12
  · subst hn
    have hf : F_X0_isFull 1 u = some (1, u) := by
      unfold F_X0_isFull F_X0_isFull_14
      rw [b, if_neg (show ¬ nI 12 < (12 : Int32) by decide)]
      rfl
    exact ⟨-1000000002, tC u 1, tM v 1, by simp [F_X6_print, (hw u v).1, hf, ite10, ite00, bdI_s, bdL_s, bdV_s, gz_0, gz_1, gz_bi, fd_C0, fd_C1, fd_C2, fd_C3, fd_C4, fd_C5, fd_C6, fd_M0, fd_M1, fd_M2, fd_M3, fd_M4, fd_M5, fd_M6, if_true, if_false], by simp [F_X7_print, (hw u v).2, gd_c0, cl_0, c, show nI 12 = (12 : Int32) from rfl, ite10, ite00, bdI_s, bdL_s, bdV_s, gz_0, gz_1, gz_bi, fd_C0, fd_C1, fd_C2, fd_C3, fd_C4, fd_C5, fd_C6, fd_M0, fd_M1, fd_M2, fd_M3, fd_M4, fd_M5, fd_M6, if_true, if_false], hR.fd 1 (by omega)⟩
  · have hn12 : n < 12 := by omega
    have hf : F_X0_isFull 1 u = some (0, u) := by
      unfold F_X0_isFull F_X0_isFull_14
      rw [b, if_pos (show nI n < (12 : Int32) from nI_lt (b := 12) hn12 (by omega))]
      rfl
    have ne : ¬ nI n = (12 : Int32) := fun z => hn ((nI_eq (b := 12) (by omega) (by omega)).mp z)
    have z0 : (nwM v n (nI k) x2 1000 0 0).1 1 0 = nI (n + 1) := by unfold nwM; rw [sI_eq]
    exact ⟨nI n, nwC u n (nI k) x2, nwM v n (nI k) x2 1000 0 0, by simp [F_X6_print, (hw u v).1, hf, hang_C b hn12, ite10, ite00, bdI_s, bdL_s, bdV_s, gz_0, gz_1, gz_bi, fd_C0, fd_C1, fd_C2, fd_C3, fd_C4, fd_C5, fd_C6, fd_M0, fd_M1, fd_M2, fd_M3, fd_M4, fd_M5, fd_M6, if_true, if_false], by simp [F_X7_print, (hw u v).2, gd_c0, cl_0, c, ne, add_M c hn12, z0, nI_pred, ite10, ite00, bdI_s, bdL_s, bdV_s, gz_0, gz_1, gz_bi, fd_C0, fd_C1, fd_C2, fd_C3, fd_C4, fd_C5, fd_C6, fd_M0, fd_M1, fd_M2, fd_M3, fd_M4, fd_M5, fd_M6, if_true, if_false], hR.nw hA hn12 ⟨k, k1, rfl⟩⟩
theorem can1 {u v : Mem} {n p q : Nat} (hA : RAr u v 1 1 2 n) (hp : p < n) (hq : q < n) : F_X0_canBe 1 u (nI p) (nI q) = some (bi (canP (vM v 1 2 p) (vM v 1 2 q) (v.1 1 1)), u) := by
  have cc := canC (u := u) (t := 1) (hA.lt hp) (hA.lt hq)
  rw [show 12 * 1 + 16 + p = 28 + p by omega, show 12 * 1 + 16 + q = 28 + q by omega, hA.at hp, hA.at hq, show u.1 (1 + 3) 2 = v.1 1 1 from hA.sl] at cc
  exact cc
theorem ST10 : ST_10 Rel := by
  intro u v x1 x2 hR
  obtain ⟨⟨n, hA⟩, -⟩ := id hR
  rcases two_cases hA x1 x2 with ⟨c, m⟩ | ⟨p, q, hp, hq, hne, rfl, rfl, c, m⟩
  · exact ⟨-1000000001, tC u 0, tM v 0, by simp only [F_X6_order, c, ite10, ite00, bdI_s, bdL_s, bdV_s, gz_0, gz_1, gz_bi, fd_C0, fd_C1, fd_C2, fd_C3, fd_C4, fd_C5, fd_C6, fd_M0, fd_M1, fd_M2, fd_M3, fd_M4, fd_M5, fd_M6, if_true, if_false], by simp only [F_X7_order, m, ite10, ite00, bdI_s, bdL_s, bdV_s, gz_0, gz_1, gz_bi, fd_C0, fd_C1, fd_C2, fd_C3, fd_C4, fd_C5, fd_C6, fd_M0, fd_M1, fd_M2, fd_M3, fd_M4, fd_M5, fd_M6, if_true, if_false], hR.fd 0 (by omega)⟩
  have c1 := can1 hA hp hq
  have c2 := can1 hA hq hp
  have m1 := canM (hA.lt hp) (hA.lt hq) (hA.ok hp) (hA.ok hq)
  have m2 := canM (hA.lt hq) (hA.lt hp) (hA.ok hq) (hA.ok hp)
  cases h1 : canP (vM v 1 2 p) (vM v 1 2 q) (v.1 1 1) <;> cases h2 : canP (vM v 1 2 q) (vM v 1 2 p) (v.1 1 1) <;> rw [h1] at c1 m1 <;> rw [h2] at c2 m2
  · exact ⟨0 + 0, u, v, by simp [F_X6_order, F_X6_order_33, F_X6_order_51, c, c1, c2, bi, ite10, ite00, bdI_s, bdL_s, bdV_s, gz_0, gz_1, gz_bi, fd_C0, fd_C1, fd_C2, fd_C3, fd_C4, fd_C5, fd_C6, fd_M0, fd_M1, fd_M2, fd_M3, fd_M4, fd_M5, fd_M6, if_true, if_false], by simp [F_X7_order, F_X7_order_30, F_X7_order_44, m, m1, m2, bi, ite10, ite00, bdI_s, bdL_s, bdV_s, gz_0, gz_1, gz_bi, fd_C0, fd_C1, fd_C2, fd_C3, fd_C4, fd_C5, fd_C6, fd_M0, fd_M1, fd_M2, fd_M3, fd_M4, fd_M5, fd_M6, if_true, if_false], hR⟩
  · exact ⟨0 + 2, u, v, by simp [F_X6_order, F_X6_order_33, F_X6_order_51, c, c1, c2, bi, ite10, ite00, bdI_s, bdL_s, bdV_s, gz_0, gz_1, gz_bi, fd_C0, fd_C1, fd_C2, fd_C3, fd_C4, fd_C5, fd_C6, fd_M0, fd_M1, fd_M2, fd_M3, fd_M4, fd_M5, fd_M6, if_true, if_false], by simp [F_X7_order, F_X7_order_30, F_X7_order_44, m, m1, m2, bi, ite10, ite00, bdI_s, bdL_s, bdV_s, gz_0, gz_1, gz_bi, fd_C0, fd_C1, fd_C2, fd_C3, fd_C4, fd_C5, fd_C6, fd_M0, fd_M1, fd_M2, fd_M3, fd_M4, fd_M5, fd_M6, if_true, if_false], hR⟩
  · exact ⟨1 + 0, u, v, by simp [F_X6_order, F_X6_order_33, F_X6_order_51, c, c1, c2, bi, ite10, ite00, bdI_s, bdL_s, bdV_s, gz_0, gz_1, gz_bi, fd_C0, fd_C1, fd_C2, fd_C3, fd_C4, fd_C5, fd_C6, fd_M0, fd_M1, fd_M2, fd_M3, fd_M4, fd_M5, fd_M6, if_true, if_false], by simp [F_X7_order, F_X7_order_30, F_X7_order_44, m, m1, m2, bi, ite10, ite00, bdI_s, bdL_s, bdV_s, gz_0, gz_1, gz_bi, fd_C0, fd_C1, fd_C2, fd_C3, fd_C4, fd_C5, fd_C6, fd_M0, fd_M1, fd_M2, fd_M3, fd_M4, fd_M5, fd_M6, if_true, if_false], hR⟩
  · exact ⟨1 + 2, u, v, by simp [F_X6_order, F_X6_order_33, F_X6_order_51, c, c1, c2, bi, ite10, ite00, bdI_s, bdL_s, bdV_s, gz_0, gz_1, gz_bi, fd_C0, fd_C1, fd_C2, fd_C3, fd_C4, fd_C5, fd_C6, fd_M0, fd_M1, fd_M2, fd_M3, fd_M4, fd_M5, fd_M6, if_true, if_false], by simp [F_X7_order, F_X7_order_30, F_X7_order_44, m, m1, m2, bi, ite10, ite00, bdI_s, bdL_s, bdV_s, gz_0, gz_1, gz_bi, fd_C0, fd_C1, fd_C2, fd_C3, fd_C4, fd_C5, fd_C6, fd_M0, fd_M1, fd_M2, fd_M3, fd_M4, fd_M5, fd_M6, if_true, if_false], hR⟩
theorem ST11 : ST_11 Rel := by
  intro u v x1 x2 hR
  obtain ⟨⟨n, hA⟩, -⟩ := id hR
  rcases two_cases hA x1 x2 with ⟨c, m⟩ | ⟨p, q, hp, hq, hne, rfl, rfl, c, m⟩
  · exact ⟨-1000000001, tC u 0, tM v 0, by simp only [F_X6_alike, c, ite10, ite00, bdI_s, bdL_s, bdV_s, gz_0, gz_1, gz_bi, fd_C0, fd_C1, fd_C2, fd_C3, fd_C4, fd_C5, fd_C6, fd_M0, fd_M1, fd_M2, fd_M3, fd_M4, fd_M5, fd_M6, if_true, if_false], by simp only [F_X7_alike, m, ite10, ite00, bdI_s, bdL_s, bdV_s, gz_0, gz_1, gz_bi, fd_C0, fd_C1, fd_C2, fd_C3, fd_C4, fd_C5, fd_C6, fd_M0, fd_M1, fd_M2, fd_M3, fd_M4, fd_M5, fd_M6, if_true, if_false], hR.fd 0 (by omega)⟩
  have hp12 := hA.lt hp
  have hq12 := hA.lt hq
  have op := hA.ok hp
  have oq := hA.ok hq
  obtain ⟨z, hz, ez⟩ := wb_of ((shP (vM v 1 2 p) &&& shP (vM v 1 2 q)) ||| (baP (vM v 1 2 p) &&& baP (vM v 1 2 q)))
  exact ⟨nI (pcF 64 z), u, v, by simp [F_X6_alike, c, gd_nI _ hp12 (show 12 < 2 ^ 31 by omega), gd_nI _ hq12 (show 12 < 2 ^ 31 by omega), cl_nI hp12, cl_nI hq12, sh_C, ba_C, hA.at hp, hA.at hq, ez, bc_C u hz, ite10, ite00, bdI_s, bdL_s, bdV_s, gz_0, gz_1, gz_bi, fd_C0, fd_C1, fd_C2, fd_C3, fd_C4, fd_C5, fd_C6, fd_M0, fd_M1, fd_M2, fd_M3, fd_M4, fd_M5, fd_M6, if_true, if_false], by simp only [F_X7_alike, m, hd_M hp12 op, hd_M hq12 oq, sh_M hp12 op, sh_M hq12 oq, al_eq op oq, ez, many_M v hz, ite10, ite00, bdI_s, bdL_s, bdV_s, gz_0, gz_1, gz_bi, fd_C0, fd_C1, fd_C2, fd_C3, fd_C4, fd_C5, fd_C6, fd_M0, fd_M1, fd_M2, fd_M3, fd_M4, fd_M5, fd_M6, if_true, if_false], hR⟩
theorem mk1 {u v : Mem} {n p q : Nat} (hA : RAr u v 1 1 2 n) (hp : p < n) (hq : q < n) : F_X0_marksAllow 1 u (nI p) (nI q) = some (bi (mkP (vM v 1 2 p) (vM v 1 2 q)), u) := by
  have cc := mkC (u := u) (t := 1) (hA.lt hp) (hA.lt hq)
  rw [show 12 * 1 + 16 + p = 28 + p by omega, show 12 * 1 + 16 + q = 28 + q by omega, hA.at hp, hA.at hq] at cc
  exact cc
theorem gap1 {u v : Mem} {n p q : Nat} (hA : RAr u v 1 1 2 n) (hp : p < n) (hq : q < n) : F_X0_widthGap 1 u (nI p) (nI q) = some (gapP (vM v 1 2 p) (vM v 1 2 q), u) := by
  have cc := gapC (u := u) (t := 1) (hA.lt hp) (hA.lt hq)
  rw [show 12 * 1 + 16 + p = 28 + p by omega, show 12 * 1 + 16 + q = 28 + q by omega, hA.at hp, hA.at hq] at cc
  exact cc
theorem ST12 : ST_12 Rel := by
  intro u v x1 x2 hR
  obtain ⟨⟨n, hA⟩, -⟩ := id hR
  rcases two_cases hA x1 x2 with ⟨c, m⟩ | ⟨p, q, hp, hq, hne, rfl, rfl, c, m⟩
  · exact ⟨-1000000001, tC u 0, tM v 0, by simp only [F_X6_slackFor, c, ite10, ite00, bdI_s, bdL_s, bdV_s, gz_0, gz_1, gz_bi, fd_C0, fd_C1, fd_C2, fd_C3, fd_C4, fd_C5, fd_C6, fd_M0, fd_M1, fd_M2, fd_M3, fd_M4, fd_M5, fd_M6, if_true, if_false], by simp only [F_X7_slackFor, m, ite10, ite00, bdI_s, bdL_s, bdV_s, gz_0, gz_1, gz_bi, fd_C0, fd_C1, fd_C2, fd_C3, fd_C4, fd_C5, fd_C6, fd_M0, fd_M1, fd_M2, fd_M3, fd_M4, fd_M5, fd_M6, if_true, if_false], hR.fd 0 (by omega)⟩
  have c1 := mk1 hA hp hq
  have c2 := mk1 hA hq hp
  have m1 := mkM (hA.lt hp) (hA.lt hq) (hA.ok hp) (hA.ok hq)
  have m2 := mkM (hA.lt hq) (hA.lt hp) (hA.ok hq) (hA.ok hp)
  have g1 := gap1 hA hp hq
  have g2 := gapM (v := v) (hA.lt hp) (hA.lt hq)
  obtain ⟨g, hg, eg⟩ := gap_rng (hA.ok hp) (hA.ok hq)
  rw [eg] at g1 g2
  by_cases hb : (mkP (vM v 1 2 p) (vM v 1 2 q) || mkP (vM v 1 2 q) (vM v 1 2 p)) = true
  · by_cases h9 : g ≤ 999
    · have sC : F_X6_isSlack u (nI g) = some (1, u) := by simp [F_X6_isSlack, F_X6_isSlack_16, nI_pos (n := g) (by omega), show ¬ (999 : Int32) < nI g from nI_nlt (a := 999) h9 (by omega), ite10, ite00, bdI_s, bdL_s, bdV_s, gz_0, gz_1, gz_bi, fd_C0, fd_C1, fd_C2, fd_C3, fd_C4, fd_C5, fd_C6, fd_M0, fd_M1, fd_M2, fd_M3, fd_M4, fd_M5, fd_M6, if_true, if_false]
      have sM : ¬ (999 : Int32) < nI g := nI_nlt (a := 999) h9 (by omega)
      refine ⟨nI g, u, v, ?_, ?_, hR⟩
      · cases h1 : mkP (vM v 1 2 p) (vM v 1 2 q) <;> cases h2 : mkP (vM v 1 2 q) (vM v 1 2 p) <;> rw [h1] at c1 <;> rw [h2] at c2 <;> simp [h1, h2] at hb <;> simp [F_X6_slackFor, F_X6_slackFor_47, F_X6_slackFor_74, c, c1, c2, g1, sC, bi, ite10, ite00, bdI_s, bdL_s, bdV_s, gz_0, gz_1, gz_bi, fd_C0, fd_C1, fd_C2, fd_C3, fd_C4, fd_C5, fd_C6, fd_M0, fd_M1, fd_M2, fd_M3, fd_M4, fd_M5, fd_M6, if_true, if_false]
      · cases h1 : mkP (vM v 1 2 p) (vM v 1 2 q) <;> cases h2 : mkP (vM v 1 2 q) (vM v 1 2 p) <;> rw [h1] at m1 <;> rw [h2] at m2 <;> simp [h1, h2] at hb <;> simp [F_X7_slackFor, F_X7_slackFor_34, F_X7_slackFor_39, F_X7_slackFor_71, m, m1, m2, g2, sM, bi, ite10, ite00, bdI_s, bdL_s, bdV_s, gz_0, gz_1, gz_bi, fd_C0, fd_C1, fd_C2, fd_C3, fd_C4, fd_C5, fd_C6, fd_M0, fd_M1, fd_M2, fd_M3, fd_M4, fd_M5, fd_M6, if_true, if_false]
    · have sM : (999 : Int32) < nI g := nI_lt (a := 999) (by omega) (by omega)
      have sC : F_X6_isSlack u (nI g) = some (0, u) := by simp [F_X6_isSlack, F_X6_isSlack_15, F_X6_isSlack_16, nI_pos (n := g) (by omega), sM, ite10, ite00, bdI_s, bdL_s, bdV_s, gz_0, gz_1, gz_bi, fd_C0, fd_C1, fd_C2, fd_C3, fd_C4, fd_C5, fd_C6, fd_M0, fd_M1, fd_M2, fd_M3, fd_M4, fd_M5, fd_M6, if_true, if_false]
      refine ⟨-1000000004, tC u 3, tM v 3, ?_, ?_, hR.fd 3 (by omega)⟩
      · cases h1 : mkP (vM v 1 2 p) (vM v 1 2 q) <;> cases h2 : mkP (vM v 1 2 q) (vM v 1 2 p) <;> rw [h1] at c1 <;> rw [h2] at c2 <;> simp [h1, h2] at hb <;> simp [F_X6_slackFor, F_X6_slackFor_47, F_X6_slackFor_74, c, c1, c2, g1, sC, bi, ite10, ite00, bdI_s, bdL_s, bdV_s, gz_0, gz_1, gz_bi, fd_C0, fd_C1, fd_C2, fd_C3, fd_C4, fd_C5, fd_C6, fd_M0, fd_M1, fd_M2, fd_M3, fd_M4, fd_M5, fd_M6, if_true, if_false]
      · cases h1 : mkP (vM v 1 2 p) (vM v 1 2 q) <;> cases h2 : mkP (vM v 1 2 q) (vM v 1 2 p) <;> rw [h1] at m1 <;> rw [h2] at m2 <;> simp [h1, h2] at hb <;> simp [F_X7_slackFor, F_X7_slackFor_34, F_X7_slackFor_39, F_X7_slackFor_65, F_X7_slackFor_71, m, m1, m2, g2, sM, bi, ite10, ite00, bdI_s, bdL_s, bdV_s, gz_0, gz_1, gz_bi, fd_C0, fd_C1, fd_C2, fd_C3, fd_C4, fd_C5, fd_C6, fd_M0, fd_M1, fd_M2, fd_M3, fd_M4, fd_M5, fd_M6, if_true, if_false]
  · simp at hb
    obtain ⟨h1, h2⟩ := hb
    rw [h1] at c1 m1
    rw [h2] at c2 m2
    exact ⟨-1000000004, tC u 3, tM v 3, by simp [F_X6_slackFor, c, c1, c2, bi, ite10, ite00, bdI_s, bdL_s, bdV_s, gz_0, gz_1, gz_bi, fd_C0, fd_C1, fd_C2, fd_C3, fd_C4, fd_C5, fd_C6, fd_M0, fd_M1, fd_M2, fd_M3, fd_M4, fd_M5, fd_M6, if_true, if_false], by simp [F_X7_slackFor, F_X7_slackFor_39, F_X7_slackFor_65, F_X7_slackFor_71, m, m1, m2, g2, bi, ite10, ite00, bdI_s, bdL_s, bdV_s, gz_0, gz_1, gz_bi, fd_C0, fd_C1, fd_C2, fd_C3, fd_C4, fd_C5, fd_C6, fd_M0, fd_M1, fd_M2, fd_M3, fd_M4, fd_M5, fd_M6, if_true, if_false], hR.fd 3 (by omega)⟩
theorem ST13 : ST_13 Rel := by
  intro u v x1 x2 hR
  obtain ⟨⟨n, hA⟩, -⟩ := id hR
  rcases two_cases hA x1 x2 with ⟨c, m⟩ | ⟨p, q, hp, hq, hne, rfl, rfl, c, m⟩
  · exact ⟨-1000000001, tC u 0, tM v 0, by simp only [F_X6_came, c, ite10, ite00, bdI_s, bdL_s, bdV_s, gz_0, gz_1, gz_bi, fd_C0, fd_C1, fd_C2, fd_C3, fd_C4, fd_C5, fd_C6, fd_M0, fd_M1, fd_M2, fd_M3, fd_M4, fd_M5, fd_M6, if_true, if_false], by simp only [F_X7_came, m, ite10, ite00, bdI_s, bdL_s, bdV_s, gz_0, gz_1, gz_bi, fd_C0, fd_C1, fd_C2, fd_C3, fd_C4, fd_C5, fd_C6, fd_M0, fd_M1, fd_M2, fd_M3, fd_M4, fd_M5, fd_M6, if_true, if_false], hR.fd 0 (by omega)⟩
  have c1 := can1 hA hp hq
  have m1 := canM (hA.lt hp) (hA.lt hq) (hA.ok hp) (hA.ok hq)
  have hp12 := hA.lt hp
  have hq12 := hA.lt hq
  have op := hA.ok hp
  have oq := hA.ok hq
  cases h1 : canP (vM v 1 2 p) (vM v 1 2 q) (v.1 1 1) <;> rw [h1] at c1 m1
  · exact ⟨-1000000005, tC u 4, tM v 4, by simp [F_X6_came, c, c1, bi, ite10, ite00, bdI_s, bdL_s, bdV_s, gz_0, gz_1, gz_bi, fd_C0, fd_C1, fd_C2, fd_C3, fd_C4, fd_C5, fd_C6, fd_M0, fd_M1, fd_M2, fd_M3, fd_M4, fd_M5, fd_M6, if_true, if_false], by simp [F_X7_came, m, m1, bi, ite10, ite00, bdI_s, bdL_s, bdV_s, gz_0, gz_1, gz_bi, fd_C0, fd_C1, fd_C2, fd_C3, fd_C4, fd_C5, fd_C6, fd_M0, fd_M1, fd_M2, fd_M3, fd_M4, fd_M5, fd_M6, if_true, if_false], hR.fd 4 (by omega)⟩
  · obtain ⟨z, hz, ez⟩ := wb_of (shP (vM v 1 2 q) &&& baP (vM v 1 2 p))
    exact ⟨nI (pcF 64 z), u, v, by simp [F_X6_came, c, c1, bi, gd_nI _ hp12 (show 12 < 2 ^ 31 by omega), gd_nI _ hq12 (show 12 < 2 ^ 31 by omega), cl_nI hp12, cl_nI hq12, sh_C, ba_C, hA.at hp, hA.at hq, ez, bc_C u hz, ite10, ite00, bdI_s, bdL_s, bdV_s, gz_0, gz_1, gz_bi, fd_C0, fd_C1, fd_C2, fd_C3, fd_C4, fd_C5, fd_C6, fd_M0, fd_M1, fd_M2, fd_M3, fd_M4, fd_M5, fd_M6, if_true, if_false], by simp only [F_X7_came, m, m1, bi_t, hd_M hp12 op, sh_M hp12 op, sh_M hq12 oq, mk_eq oq op, ez, many_M v hz, ite10, ite00, bdI_s, bdL_s, bdV_s, gz_0, gz_1, gz_bi, fd_C0, fd_C1, fd_C2, fd_C3, fd_C4, fd_C5, fd_C6, fd_M0, fd_M1, fd_M2, fd_M3, fd_M4, fd_M5, fd_M6, if_true, if_false], hR⟩
/-! casts -/
def cbP (a b : PV) : Bool := decide (¬ a.2.2.1 < b.2.2.1) && (decide (lg_cmp b.2.2.2.2 a.2.2.2.2 = 0) && (decide (¬ a.2.1 * 100 < b.2.1 * 96) && decide (¬ b.2.1 * 98 < a.2.1 * 100)))
theorem cb_C (u : Mem) (x y : Nat) : F_X0_canBeCast u x y = some (bi (cbP (prC u x) (prC u y)), u) := by
  unfold F_X0_canBeCast F_X0_canBeCast_61 F_X0_canBeCast_62 cbP prC
  by_cases h1 : u.1 x 2 < u.1 y 2
  · simp [h1, bi, ite10, ite00, bdI_s, bdL_s, bdV_s, gz_0, gz_1, gz_bi, fd_C0, fd_C1, fd_C2, fd_C3, fd_C4, fd_C5, fd_C6, fd_M0, fd_M1, fd_M2, fd_M3, fd_M4, fd_M5, fd_M6, if_true, if_false]
  by_cases h2 : lg_cmp (u.2 y 4) (u.2 x 4) = 0
  · by_cases h3 : u.1 x 1 * 100 < u.1 y 1 * 96
    · simp [h1, h2, h3, bi, ite10, ite00, bdI_s, bdL_s, bdV_s, gz_0, gz_1, gz_bi, fd_C0, fd_C1, fd_C2, fd_C3, fd_C4, fd_C5, fd_C6, fd_M0, fd_M1, fd_M2, fd_M3, fd_M4, fd_M5, fd_M6, if_true, if_false]
    · by_cases h4 : u.1 y 1 * 98 < u.1 x 1 * 100
      · simp [h1, h2, h3, h4, bi, ite10, ite00, bdI_s, bdL_s, bdV_s, gz_0, gz_1, gz_bi, fd_C0, fd_C1, fd_C2, fd_C3, fd_C4, fd_C5, fd_C6, fd_M0, fd_M1, fd_M2, fd_M3, fd_M4, fd_M5, fd_M6, if_true, if_false]
      · simp [h1, h2, h3, h4, bi, ite10, ite00, bdI_s, bdL_s, bdV_s, gz_0, gz_1, gz_bi, fd_C0, fd_C1, fd_C2, fd_C3, fd_C4, fd_C5, fd_C6, fd_M0, fd_M1, fd_M2, fd_M3, fd_M4, fd_M5, fd_M6, if_true, if_false]
  · simp [h1, h2, bi, ite10, ite00, bdI_s, bdL_s, bdV_s, gz_0, gz_1, gz_bi, fd_C0, fd_C1, fd_C2, fd_C3, fd_C4, fd_C5, fd_C6, fd_M0, fd_M1, fd_M2, fd_M3, fd_M4, fd_M5, fd_M6, if_true, if_false]
theorem cb_M {v : Mem} {p q : Nat} (hp : p < 12) (hq : q < 12) : F_X7_canBeCast v (nI p) (nI q) = some (bi (decide (q ≠ p) && cbP (vM v 1 2 p) (vM v 1 2 q)), v) := by
  unfold F_X7_canBeCast F_X7_canBeCast_76 F_X7_canBeCast_77
  simp only [its_M1 hp, its_M1 hq, its_M2 hp, its_M2 hq, gd_nI _ hp (show 12 < 2 ^ 31 by omega), gd_nI _ hq (show 12 < 2 ^ 31 by omega), cl_nI hp, cl_nI hq, ite10, ite00, bdI_s, bdL_s, bdV_s, gz_0, gz_1, gz_bi, fd_C0, fd_C1, fd_C2, fd_C3, fd_C4, fd_C5, fd_C6, fd_M0, fd_M1, fd_M2, fd_M3, fd_M4, fd_M5, fd_M6, if_true, if_false]
  by_cases e : q = p
  · subst e; simp [bi, ite10, ite00, bdI_s, bdL_s, bdV_s, gz_0, gz_1, gz_bi, fd_C0, fd_C1, fd_C2, fd_C3, fd_C4, fd_C5, fd_C6, fd_M0, fd_M1, fd_M2, fd_M3, fd_M4, fd_M5, fd_M6, if_true, if_false]
  · have ne : ¬ nI q = nI p := fun z => e ((nI_eq (by omega) (by omega)).mp z)
    rw [if_neg ne, decide_eq_true e, Bool.true_and]
    unfold cbP
    rw [show v.2 2 p = (vM v 1 2 p).2.2.2.2 from rfl, show v.2 2 q = (vM v 1 2 q).2.2.2.2 from rfl, Int32.mul_comm 100, Int32.mul_comm 96, Int32.mul_comm 98]
    by_cases h1 : (vM v 1 2 p).2.2.1 < (vM v 1 2 q).2.2.1
    · simp [h1, bi, ite10, ite00, bdI_s, bdL_s, bdV_s, gz_0, gz_1, gz_bi, fd_C0, fd_C1, fd_C2, fd_C3, fd_C4, fd_C5, fd_C6, fd_M0, fd_M1, fd_M2, fd_M3, fd_M4, fd_M5, fd_M6, if_true, if_false]
    by_cases h2 : lg_cmp (vM v 1 2 q).2.2.2.2 (vM v 1 2 p).2.2.2.2 = 0
    · by_cases h3 : (vM v 1 2 p).2.1 * 100 < (vM v 1 2 q).2.1 * 96
      · simp [h1, h2, h3, bi, ite10, ite00, bdI_s, bdL_s, bdV_s, gz_0, gz_1, gz_bi, fd_C0, fd_C1, fd_C2, fd_C3, fd_C4, fd_C5, fd_C6, fd_M0, fd_M1, fd_M2, fd_M3, fd_M4, fd_M5, fd_M6, if_true, if_false]
      · by_cases h4 : (vM v 1 2 q).2.1 * 98 < (vM v 1 2 p).2.1 * 100
        · simp [h1, h2, h3, h4, bi, ite10, ite00, bdI_s, bdL_s, bdV_s, gz_0, gz_1, gz_bi, fd_C0, fd_C1, fd_C2, fd_C3, fd_C4, fd_C5, fd_C6, fd_M0, fd_M1, fd_M2, fd_M3, fd_M4, fd_M5, fd_M6, if_true, if_false]
        · simp [h1, h2, h3, h4, bi, ite10, ite00, bdI_s, bdL_s, bdV_s, gz_0, gz_1, gz_bi, fd_C0, fd_C1, fd_C2, fd_C3, fd_C4, fd_C5, fd_C6, fd_M0, fd_M1, fd_M2, fd_M3, fd_M4, fd_M5, fd_M6, if_true, if_false]
    · simp [h1, h2, bi, ite10, ite00, bdI_s, bdL_s, bdV_s, gz_0, gz_1, gz_bi, fd_C0, fd_C1, fd_C2, fd_C3, fd_C4, fd_C5, fd_C6, fd_M0, fd_M1, fd_M2, fd_M3, fd_M4, fd_M5, fd_M6, if_true, if_false]
def fq (f : Nat → Bool) : Nat → Nat → Option Nat
  | 0, _ => none
  | k + 1, i => if f i then some i else fq f k (i + 1)
theorem fq_congr {f g : Nat → Bool} : ∀ k i, (∀ j, i ≤ j → j < i + k → f j = g j) → fq f k i = fq g k i := by
  intro k
  induction k with
  | zero => intro i _; rfl
  | succ k ih => intro i h; unfold fq; rw [h i (by omega) (by omega), ih (i + 1) (fun j h1 h2 => h j (by omega) (by omega))]
theorem fq_lt {f : Nat → Bool} : ∀ k i j, fq f k i = some j → i ≤ j ∧ j < i + k ∧ f j = true := by
  intro k
  induction k with
  | zero => intro i j h; cases h
  | succ k ih =>
    intro i j h
    unfold fq at h
    by_cases e : f i = true
    · rw [if_pos e] at h; cases h; exact ⟨by omega, by omega, e⟩
    · rw [if_neg e] at h
      obtain ⟨a, b, c⟩ := ih (i + 1) j h
      exact ⟨by omega, by omega, c⟩
def op1 (o : Option Nat) : Int32 := match o with
  | none => -1
  | some j => nI j
theorem src_28 {u : Mem} {n p : Nat} (hs : u.1 4 1 = nI n) (hn : n ≤ 12) (hp : p < n) : ∀ m k i, i + k = n → k < m → F_X0_sourceOf_28 m u 1 (nI p) (nI i) = some (op1 (fq (fun q => decide (q ≠ p) && cbP (prC u (28 + p)) (prC u (28 + q))) k i), u) := by
  intro m
  induction m with
  | zero => intro k i _ h; exact absurd h (by omega)
  | succ m ih =>
    intro k i h1 h2
    unfold F_X0_sourceOf_28 F_X0_sourceOf_61
    rw [show u.1 (1 + 3) 1 = nI n from hs]
    cases k with
    | zero => rw [if_pos (nI_le (by omega) (by omega))]; rfl
    | succ k =>
      rw [if_neg (nI_ge (by omega) (by omega))]
      unfold fq
      by_cases e : i = p
      · subst e
        rw [if_pos rfl, nI_1, ih k (i + 1) (by omega) (by omega)]
        simp
      · rw [if_neg (fun z => e ((nI_eq (by omega) (by omega)).mp z)), gd_nI _ (show p < 12 by omega) (by omega), gd_nI _ (show i < 12 by omega) (by omega), cl_nI (show p < 12 by omega), cl_nI (show i < 12 by omega), cb_C, bdI_s, show 12 * 1 + 16 + p = 28 + p by omega, show 12 * 1 + 16 + i = 28 + i by omega]
        cases hb : cbP (prC u (28 + p)) (prC u (28 + i))
        · rw [if_pos (by rfl), nI_1, ih k (i + 1) (by omega) (by omega)]
          simp [hb]
        · rw [if_neg (by decide)]
          simp [hb, e, op1]
theorem from_2 {v : Mem} {n p : Nat} (hs : v.1 1 0 = nI n) (hn : n ≤ 12) (hp : p < n) : ∀ m k i, i + k = n → k < m → F_X7_fromOf_2 m v (nI p) (nI i) = some (op1 (fq (fun q => decide (q ≠ p) && cbP (vM v 1 2 p) (vM v 1 2 q)) k i), v) := by
  intro m
  induction m with
  | zero => intro k i _ h; exact absurd h (by omega)
  | succ m ih =>
    intro k i h1 h2
    unfold F_X7_fromOf_2 F_X7_fromOf_27 F_X7_fromOf_42
    rw [gd_c0, cl_0, hs]
    cases k with
    | zero => rw [if_pos (nI_le (by omega) (by omega)), gd_c0, if_pos (nI_le (by omega) (by omega))]; rfl
    | succ k =>
      rw [if_neg (nI_ge (by omega) (by omega)), cb_M (by omega) (by omega), bdI_s]
      unfold fq
      cases hb : (decide (i ≠ p) && cbP (vM v 1 2 p) (vM v 1 2 i))
      · rw [if_pos (by rfl), nI_1, ih k (i + 1) (by omega) (by omega)]
        rfl
      · rw [if_neg (by decide), gd_c0, hs, if_neg (nI_ge (by omega) (by omega))]
        rfl
/-- from which a print can be cast: nothing for what is no cast -/
def srcP (v : Mem) (n p : Nat) : Option Nat := if (vM v 1 2 p).1 = 2 ∨ (vM v 1 2 p).1 = 3 then fq (fun q => decide (q ≠ p) && cbP (vM v 1 2 p) (vM v 1 2 q)) n 0 else none
theorem isC_M {v : Mem} {p : Nat} (hp : p < 12) (ho : okP (vM v 1 2 p)) : F_X7_isCast v (nI p) = some (bi (decide ((vM v 1 2 p).1 = 2 ∨ (vM v 1 2 p).1 = 3)), v) := by
  obtain ⟨k, k1, ek⟩ := ho.1
  have h := und_M v k1 (show 2 < 6 by omega)
  rw [← ek, show nI 2 = (2 : Int32) from rfl] at h
  unfold F_X7_isCast
  rw [its_M0 hp, bdI_s, h, bdI_s, gz_bi, ek]
  rcases (show k = 0 ∨ k = 1 ∨ k = 2 ∨ k = 3 ∨ k = 4 ∨ k = 5 by omega) with rfl | rfl | rfl | rfl | rfl | rfl <;> rfl
theorem und2_C {u : Mem} {x : Int32} (h : ∃ k, k < 6 ∧ x = nI k) : F_X6_isUnder u x 2 = some (bi (decide (x = 2 ∨ x = 3)), u) := by
  obtain ⟨k, k1, ek⟩ := h
  have h := und_C u k1 (show 2 < 6 by omega)
  rw [← ek, show nI 2 = (2 : Int32) from rfl] at h
  rw [h, ek]
  rcases (show k = 0 ∨ k = 1 ∨ k = 2 ∨ k = 3 ∨ k = 4 ∨ k = 5 by omega) with rfl | rfl | rfl | rfl | rfl | rfl <;> rfl
theorem src_C {u v : Mem} {n p : Nat} (hA : RAr u v 1 1 2 n) (hp : p < n) : F_X0_sourceOf 1 u (nI p) = some (op1 (srcP v n p), u) := by
  have h12 := hA.lt hp
  obtain ⟨hn, hs, -⟩ := id hA
  unfold F_X0_sourceOf F_X0_sourceOf_24
  rw [has_in hs hn hp, bdI_s, ite10, gd_nI _ h12 (by omega), cl_nI h12, show 12 * 1 + 16 + p = 28 + p by omega]
  have ek : u.1 (28 + p) 0 = (vM v 1 2 p).1 := by rw [← hA.at hp]; rfl
  rw [ek, und2_C (hA.ok hp).1, bdI_s]
  unfold srcP
  by_cases h : (vM v 1 2 p).1 = 2 ∨ (vM v 1 2 p).1 = 3
  · rw [decide_eq_true h, if_neg (by decide), if_pos h]
    have := src_28 hs hn hp fu n 0 (by omega) (by unfold fu; omega)
    rw [show nI 0 = (0 : Int32) from rfl] at this
    rw [this]
    congr 3
    refine fq_congr n 0 (fun j _ hj => ?_)
    rw [hA.at hp, hA.at (show j < n by omega)]
  · rw [decide_eq_false h, if_pos (by rfl), if_neg h]
    rfl
theorem from_M {v : Mem} {n p : Nat} (hs : v.1 1 0 = nI n) (hn : n ≤ 12) (hp : p < n) (h : (vM v 1 2 p).1 = 2 ∨ (vM v 1 2 p).1 = 3) : F_X7_fromOf v (nI p) = some (op1 (srcP v n p), v) := by
  unfold F_X7_fromOf srcP
  have := from_2 hs hn hp fu n 0 (by omega) (by unfold fu; omega)
  rw [show nI 0 = (0 : Int32) from rfl] at this
  rw [this, if_pos h]
theorem op1_neg {o : Option Nat} {n : Nat} (h : ∀ j, o = some j → j < n) (hn : n ≤ 12) : (o = none ∧ op1 o = -1) ∨ ∃ j, o = some j ∧ j < n ∧ op1 o = nI j := by
  cases o with
  | none => exact Or.inl ⟨rfl, rfl⟩
  | some j => exact Or.inr ⟨j, rfl, h j rfl, rfl⟩
theorem srcP_lt {v : Mem} {n p j : Nat} (h : srcP v n p = some j) : j < n := by
  unfold srcP at h
  split at h
  · have := fq_lt _ _ _ h; omega
  · cases h
theorem ST24 : ST_24 Rel := by
  intro u v x1 hR
  obtain ⟨⟨n, hA⟩, -⟩ := id hR
  rcases pr_cases hA x1 with ⟨c, m⟩ | ⟨p, hp, rfl, c, m⟩
  · exact ⟨-1000000001, tC u 0, tM v 0, by simp only [F_X6_castOf, c, ite10, ite00, bdI_s, bdL_s, bdV_s, gz_0, gz_1, gz_bi, fd_C0, fd_C1, fd_C2, fd_C3, fd_C4, fd_C5, fd_C6, fd_M0, fd_M1, fd_M2, fd_M3, fd_M4, fd_M5, fd_M6, if_true, if_false], by simp only [F_X7_castOf, m, ite10, ite00, bdI_s, bdL_s, bdV_s, gz_0, gz_1, gz_bi, fd_C0, fd_C1, fd_C2, fd_C3, fd_C4, fd_C5, fd_C6, fd_M0, fd_M1, fd_M2, fd_M3, fd_M4, fd_M5, fd_M6, if_true, if_false], hR.fd 0 (by omega)⟩
  have h12 := hA.lt hp
  have hk := hA.at hp
  have ho := hA.ok hp
  have ek : u.1 (28 + p) 0 = (vM v 1 2 p).1 := by rw [← hk]; rfl
  have ew : u.1 (28 + p) 1 = (vM v 1 2 p).2.1 := by rw [← hk]; rfl
  have ey : u.1 (28 + p) 2 = (vM v 1 2 p).2.2.1 := by rw [← hk]; rfl
  have es : u.1 (28 + p) 3 = (vM v 1 2 p).2.2.2.1 := by rw [← hk]; rfl
  have em : u.2 (28 + p) 4 = (vM v 1 2 p).2.2.2.2 := by rw [← hk]; rfl
  have gC : ∀ {β : Type} (z : Option β), gd (nI p) 12 z = z := fun z => gd_nI z h12 (by omega)
  obtain ⟨hn, hs1, hs2, -⟩ := id hA
  have uc := und2_C (u := u) ho.1
  have um := isC_M h12 ho
  have sc := src_C hA hp
  by_cases h : (vM v 1 2 p).1 = 2 ∨ (vM v 1 2 p).1 = 3
  · rw [decide_eq_true h] at uc um
    have sm := from_M hs2 hn hp h
    rcases op1_neg (fun j => srcP_lt (v := v) (n := n) (p := p)) hn with ⟨o1, o2⟩ | ⟨j, o1, o2, o3⟩
    · rw [o2] at sc sm
      exact ⟨-1000000004, tC u 3, tM v 3, by simp [F_X6_castOf, F_X6_printOr, F_X6_printOr_14, c, gC, cl_nI h12, ek, uc, sc, bi, ite10, ite00, bdI_s, bdL_s, bdV_s, gz_0, gz_1, gz_bi, fd_C0, fd_C1, fd_C2, fd_C3, fd_C4, fd_C5, fd_C6, fd_M0, fd_M1, fd_M2, fd_M3, fd_M4, fd_M5, fd_M6, if_true, if_false], by simp [F_X7_castOf, F_X7_castOf_50, m, um, sm, bi, ite10, ite00, bdI_s, bdL_s, bdV_s, gz_0, gz_1, gz_bi, fd_C0, fd_C1, fd_C2, fd_C3, fd_C4, fd_C5, fd_C6, fd_M0, fd_M1, fd_M2, fd_M3, fd_M4, fd_M5, fd_M6, if_true, if_false], hR.fd 3 (by omega)⟩
    · rw [o3] at sc sm
      have n1 : ¬ nI j = (-1 : Int32) := fun z => by
        have := nI_pos' (n := j) (by omega)
        rw [z] at this
        exact absurd this (by decide)
      exact ⟨nI j, u, v, by simp [F_X6_castOf, F_X6_printOr, F_X6_printOr_14, c, gC, cl_nI h12, ek, uc, sc, n1, bi, ite10, ite00, bdI_s, bdL_s, bdV_s, gz_0, gz_1, gz_bi, fd_C0, fd_C1, fd_C2, fd_C3, fd_C4, fd_C5, fd_C6, fd_M0, fd_M1, fd_M2, fd_M3, fd_M4, fd_M5, fd_M6, if_true, if_false], by simp [F_X7_castOf, F_X7_castOf_50, m, um, sm, nI_pos' (n := j) (by omega), bi, ite10, ite00, bdI_s, bdL_s, bdV_s, gz_0, gz_1, gz_bi, fd_C0, fd_C1, fd_C2, fd_C3, fd_C4, fd_C5, fd_C6, fd_M0, fd_M1, fd_M2, fd_M3, fd_M4, fd_M5, fd_M6, if_true, if_false], hR⟩
  · rw [decide_eq_false h] at uc um
    exact ⟨-1000000005, tC u 4, tM v 4, by simp [F_X6_castOf, c, gC, cl_nI h12, ek, uc, bi, ite10, ite00, bdI_s, bdL_s, bdV_s, gz_0, gz_1, gz_bi, fd_C0, fd_C1, fd_C2, fd_C3, fd_C4, fd_C5, fd_C6, fd_M0, fd_M1, fd_M2, fd_M3, fd_M4, fd_M5, fd_M6, if_true, if_false], by simp [F_X7_castOf, m, um, bi, ite10, ite00, bdI_s, bdL_s, bdV_s, gz_0, gz_1, gz_bi, fd_C0, fd_C1, fd_C2, fd_C3, fd_C4, fd_C5, fd_C6, fd_M0, fd_M1, fd_M2, fd_M3, fd_M4, fd_M5, fd_M6, if_true, if_false], hR.fd 4 (by omega)⟩
def dpN (s : Nat → Option Nat) : Nat → Nat → Nat
  | 0, _ => 0
  | k + 1, q => match s q with
    | none => 0
    | some j => 1 + dpN s k j
theorem dpN_s {s : Nat → Option Nat} {k q j : Nat} (h : s q = some j) : dpN s (k + 1) q = 1 + dpN s k j := by
  show (match s q with | none => 0 | some j => 1 + dpN s k j) = _
  rw [h]
theorem dpN_n {s : Nat → Option Nat} {k q : Nat} (h : s q = none) : dpN s k q = 0 := by
  cases k with
  | zero => rfl
  | succ k => unfold dpN; rw [h]
theorem deep_C {u v : Mem} {n : Nat} (hA : RAr u v 1 1 2 n) : ∀ m k q, q < n → k ≤ 12 → k < m → F_X6_deep_29 m u (nI (12 - k)) (op1 (srcP v n q)) = some (nI (12 - k + dpN (srcP v n) k q), u) := by
  intro m
  induction m with
  | zero => intro k q _ _ h; exact absurd h (by omega)
  | succ m ih =>
    intro k q hq hk hm
    unfold F_X6_deep_29 F_X6_deep_55
    rcases op1_neg (fun j => srcP_lt (v := v) (n := n) (p := q)) hA.1 with ⟨o1, o2⟩ | ⟨j, o1, o2, o3⟩
    · rw [o2, if_pos rfl, dpN_n o1]; rfl
    · have n1 : ¬ nI j = (-1 : Int32) := fun z => by
        have := nI_pos' (n := j) (by have := hA.1; omega)
        rw [z] at this
        exact absurd this (by decide)
      rw [o3, if_neg n1]
      cases k with
      | zero => rw [if_pos (show (12 : Int32) ≤ nI (12 - 0) by decide)]; rfl
      | succ k =>
        rw [if_neg (show ¬ (12 : Int32) ≤ nI (12 - (k + 1)) from nI_ge (b := 12) (by omega) (by omega)), src_C hA o2, bdI_s, nI_1, show 12 - (k + 1) + 1 = 12 - k by omega, ih k j o2 (by omega) (by omega), dpN_s o1, show 12 - (k + 1) + (1 + dpN (srcP v n) k j) = 12 - k + dpN (srcP v n) k j by omega]
theorem deep_M {v : Mem} {n : Nat} (hs : v.1 1 0 = nI n) (hn : n ≤ 12) (hok : ∀ p, p < n → okP (vM v 1 2 p)) : ∀ m k q, q < n → k ≤ 12 → k + 1 < m → F_X7_deep_22 m v (nI (12 - k)) (nI q) 1 = some (nI (12 - k + dpN (srcP v n) k q), v) := by
  intro m
  induction m with
  | zero => intro k q _ _ h; exact absurd h (by omega)
  | succ m ih =>
    intro k q hq hk hm
    unfold F_X7_deep_22 F_X7_deep_92
    rw [if_neg (by decide)]
    cases k with
    | zero => rw [if_pos (show (12 : Int32) ≤ nI (12 - 0) by decide)]; rfl
    | succ k =>
      rw [if_neg (show ¬ (12 : Int32) ≤ nI (12 - (k + 1)) from nI_ge (b := 12) (by omega) (by omega)), isC_M (by omega) (hok q hq), bdI_s]
      have stop : ∀ d : Int32, F_X7_deep_22 m v d (nI q) 0 = some (d, v) := fun d => by
        cases m with
        | zero => exact absurd hm (by omega)
        | succ m => unfold F_X7_deep_22 F_X7_deep_92; rw [if_pos rfl]
      by_cases h : (vM v 1 2 q).1 = 2 ∨ (vM v 1 2 q).1 = 3
      · rw [decide_eq_true h, if_neg (by decide), from_M hs hn hq h, bdI_s]
        rcases op1_neg (fun j => srcP_lt (v := v) (n := n) (p := q)) hn with ⟨o1, o2⟩ | ⟨j, o1, o2, o3⟩
        · rw [o2]
          unfold F_X7_deep_50 F_X7_deep_62 F_X7_deep_75 F_X7_deep_88
          rw [if_pos (by decide), if_pos rfl, if_pos rfl, stop, dpN_n o1, Int32.add_zero]
          rfl
        · rw [o3]
          unfold F_X7_deep_50 F_X7_deep_62 F_X7_deep_75 F_X7_deep_88
          rw [if_neg (nI_pos (by omega)), if_neg (by decide), if_neg (by decide), nI_1, show 12 - (k + 1) + 1 = 12 - k by omega, ih k j o2 (by omega) (by omega), dpN_s o1, show 12 - (k + 1) + (1 + dpN (srcP v n) k j) = 12 - k + dpN (srcP v n) k j by omega]
      · rw [decide_eq_false h, if_pos (by rfl)]
        unfold F_X7_deep_50 F_X7_deep_62 F_X7_deep_75 F_X7_deep_88
        have : srcP v n q = none := by unfold srcP; rw [if_neg h]
        rw [if_pos (by decide), if_pos rfl, if_pos rfl, stop, dpN_n this, Int32.add_zero]
        rfl
theorem ST25 : ST_25 Rel := by
  intro u v x1 hR
  obtain ⟨⟨n, hA⟩, -⟩ := id hR
  rcases pr_cases hA x1 with ⟨c, m⟩ | ⟨p, hp, rfl, c, m⟩
  · exact ⟨-1000000001, tC u 0, tM v 0, by simp only [F_X6_deep, c, ite10, ite00, bdI_s, bdL_s, bdV_s, gz_0, gz_1, gz_bi, fd_C0, fd_C1, fd_C2, fd_C3, fd_C4, fd_C5, fd_C6, fd_M0, fd_M1, fd_M2, fd_M3, fd_M4, fd_M5, fd_M6, if_true, if_false], by simp only [F_X7_deep, m, ite10, ite00, bdI_s, bdL_s, bdV_s, gz_0, gz_1, gz_bi, fd_C0, fd_C1, fd_C2, fd_C3, fd_C4, fd_C5, fd_C6, fd_M0, fd_M1, fd_M2, fd_M3, fd_M4, fd_M5, fd_M6, if_true, if_false], hR.fd 0 (by omega)⟩
  obtain ⟨hn, hs1, hs2, -⟩ := id hA
  have d1 := deep_C hA fu 12 p hp (by omega) (by unfold fu; omega)
  have d2 := deep_M hs2 hn (fun q hq => hA.ok hq) fu 12 p hp (by omega) (by unfold fu; omega)
  have z : nI (12 - 12) = (0 : Int32) := rfl
  rw [z] at d1 d2
  refine ⟨nI (12 - 12 + dpN (srcP v n) 12 p), u, v, ?_, ?_, hR⟩
  · unfold F_X6_deep
    rw [c, bdI_s, ite10, src_C hA hp, bdI_s, d1]
  · unfold F_X7_deep
    rw [m, bdI_s, ite10, d2]
