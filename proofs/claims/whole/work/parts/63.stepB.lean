/-! PURE: calls on one print and on two, the rest -/
def b6 (x : Int64) (i : Nat) : Bool := x.toBitVec.getLsbD i
theorem b6_ext {x y : Int64} (h : ∀ i, i < 64 → b6 x i = b6 y i) : x = y := Int64.toBitVec_inj.mp (BitVec.eq_of_getLsbD_eq (fun i hi => h i hi))
theorem b6_or (x y : Int64) (i : Nat) : b6 (x ||| y) i = (b6 x i || b6 y i) := by unfold b6; rw [Int64.toBitVec_or, BitVec.getLsbD_or]
theorem b6_and (x y : Int64) (i : Nat) : b6 (x &&& y) i = (b6 x i && b6 y i) := by unfold b6; rw [Int64.toBitVec_and, BitVec.getLsbD_and]
theorem b6_xor (x y : Int64) (i : Nat) : b6 (x ^^^ y) i = (b6 x i ^^ b6 y i) := by unfold b6; rw [Int64.toBitVec_xor, BitVec.getLsbD_xor]
theorem b6_m1 : ∀ i, i < 64 → b6 (-1) i = true := by decide +kernel
theorem b6_n {x : Int64} {i : Nat} (h : i < 64) : b6 (x ^^^ (-1)) i = !b6 x i := by rw [b6_xor, b6_m1 i h]; cases b6 x i <;> rfl
theorem b6_hd {x : PV} {i : Nat} (hi : i < 64) (h : b6 (hdP x) i = true) : b6 1099511627775 i = true := by
  have k : ∀ i, i < 64 → (b6 1099511627775 i = true ∨ (b6 1098437885952 i = false ∧ b6 733007751850 i = false ∧ b6 1099510579200 i = false ∧ b6 0 i = false)) := by decide +kernel
  rcases k i hi with g | ⟨g1, g2, g3, g4⟩
  · exact g
  · unfold hdP at h
    split at h
    · split at h <;> simp [b6_or, g1, g2, g3, g4] at h
    · split at h
      · split at h <;> simp [b6_or, g1, g2, g3, g4] at h
      · split at h <;> simp [g1, g4] at h
theorem ok_b6 {x : PV} (h : okP x) {i : Nat} (g : b6 x.2.2.2.2 i = true) : b6 1099511627775 i = true := by
  have e := h.2.2.2.2
  rw [← e, b6_and] at g
  simp at g
  exact g.2
/-- the marks that one shows and the other one lacks, as each side writes it -/
theorem mk_eq {a b : PV} (ha : okP a) (hb : okP b) : shP a &&& ((shP b ||| hdP b) ^^^ -1) = shP a &&& baP b := by
  apply b6_ext
  intro i hi
  unfold baP
  simp only [b6_and, b6_n hi, b6_or]
  unfold shP
  simp only [b6_and, b6_n hi]
  have h1 := @ok_b6 a ha i
  cases e1 : b6 a.2.2.2.2 i <;> cases e2 : b6 (hdP a) i <;> cases e3 : b6 b.2.2.2.2 i <;> cases e4 : b6 (hdP b) i <;> simp_all
theorem al_eq {a b : PV} (ha : okP a) (hb : okP b) : (1099511627775 &&& ((hdP a ||| hdP b) ^^^ -1)) &&& ((shP a ^^^ shP b) ^^^ -1) = (shP a &&& shP b) ||| (baP a &&& baP b) := by
  apply b6_ext
  intro i hi
  unfold baP
  simp only [b6_and, b6_n hi, b6_or, b6_xor]
  unfold shP
  simp only [b6_and, b6_n hi]
  have h1 := @ok_b6 a ha i
  have h2 := @ok_b6 b hb i
  cases e1 : b6 a.2.2.2.2 i <;> cases e2 : b6 (hdP a) i <;> cases e3 : b6 b.2.2.2.2 i <;> cases e4 : b6 (hdP b) i <;> cases e5 : b6 1099511627775 i <;> simp_all
def gapP (a b : PV) : Int32 := if 0 ≤ twP a - twP b then twP a - twP b else 0 - (twP a - twP b)
def mkP (a b : PV) : Bool := decide (b.1 = 4) || decide (lg_cmp (shP a &&& baP b) 0 = 0)
def canP (a b : PV) (s : Int32) : Bool := decide (¬ s < gapP a b) && mkP a b
theorem tw_rng {x : PV} (h : okP x) : ∃ t, t ≤ 20000 ∧ twP x = nI t := by
  obtain ⟨⟨k, hk, ek⟩, ⟨w, w1, w2, ew⟩, -⟩ := h
  have d1 : 100 * nI w / 90 = nI (100 * w / 90) := by rw [show (100 : Int32) = nI 100 from rfl, show (90 : Int32) = nI 90 from rfl, pk_mul, pk_div (by omega) (by omega) (by omega)]
  have d2 : 100 * nI w / 97 = nI (100 * w / 97) := by rw [show (100 : Int32) = nI 100 from rfl, show (97 : Int32) = nI 97 from rfl, pk_mul, pk_div (by omega) (by omega) (by omega)]
  have d3 : 100 * nI (100 * w / 90) / 80 = nI (100 * (100 * w / 90) / 80) := by rw [show (100 : Int32) = nI 100 from rfl, show (80 : Int32) = nI 80 from rfl, pk_mul, pk_div (by omega) (by omega) (by omega)]
  unfold twP
  rw [ew, d1, d2, d3, show (10 : Int32) = nI 10 from rfl, nI_add]
  split
  · exact ⟨_, by omega, rfl⟩
  split
  · exact ⟨_, by omega, rfl⟩
  split
  · exact ⟨_, by omega, rfl⟩
  split
  · exact ⟨_, by omega, rfl⟩
  · exact ⟨_, by omega, rfl⟩
theorem gap_rng {a b : PV} (ha : okP a) (hb : okP b) : ∃ g, g ≤ 20000 ∧ gapP a b = nI g := by
  obtain ⟨s, hs, es⟩ := tw_rng ha
  obtain ⟨t, ht, et⟩ := tw_rng hb
  unfold gapP
  rw [es, et]
  by_cases h : t ≤ s
  · rw [pk_sub h, if_pos (nI_pos' (by omega))]
    exact ⟨s - t, by omega, rfl⟩
  · have e : nI s - nI t = -(nI (t - s)) := by rw [← pk_sub (a := t) (b := s) (by omega), Int32.neg_sub]
    have n0 : ¬ 0 ≤ -(nI (t - s)) := by
      rw [Int32.le_iff_toInt_le, sb_negT (by omega), show (0 : Int32).toInt = 0 from rfl]
      omega
    rw [e, if_neg n0, Int32.zero_sub, Int32.neg_neg]
    exact ⟨t - s, by omega, rfl⟩
section
variable {u v : Mem} {t p q : Nat}
theorem gapC (hp : p < 12) (hq : q < 12) : F_X0_widthGap t u (nI p) (nI q) = some (gapP (prC u (12 * t + 16 + p)) (prC u (12 * t + 16 + q)), u) := by
  simp only [F_X0_widthGap, gd_nI _ hp (show 12 < 2 ^ 31 by omega), gd_nI _ hq (show 12 < 2 ^ 31 by omega), cl_nI hp, cl_nI hq, tw_C, ite10, ite00, bdI_s, bdL_s, bdV_s, gz_0, gz_1, gz_bi, fd_C0, fd_C1, fd_C2, fd_C3, fd_C4, fd_C5, fd_C6, fd_M0, fd_M1, fd_M2, fd_M3, fd_M4, fd_M5, fd_M6, if_true, if_false]
  rfl
theorem mkC (hp : p < 12) (hq : q < 12) : F_X0_marksAllow t u (nI p) (nI q) = some (bi (mkP (prC u (12 * t + 16 + p)) (prC u (12 * t + 16 + q))), u) := by
  simp only [F_X0_marksAllow, F_X0_marksAllow_37, F_X0_marksAllow_42, gd_nI _ hp (show 12 < 2 ^ 31 by omega), gd_nI _ hq (show 12 < 2 ^ 31 by omega), cl_nI hp, cl_nI hq, sh_C, ba_C, ite10, ite00, bdI_s, bdL_s, bdV_s, gz_0, gz_1, gz_bi, fd_C0, fd_C1, fd_C2, fd_C3, fd_C4, fd_C5, fd_C6, fd_M0, fd_M1, fd_M2, fd_M3, fd_M4, fd_M5, fd_M6, if_true, if_false]
  have e : (prC u (12 * t + 16 + q)).1 = u.1 (12 * t + 16 + q) 0 := rfl
  unfold mkP
  rw [e]
  by_cases h : u.1 (12 * t + 16 + q) 0 = 4
  · simp [h, bi]
  · by_cases g : lg_cmp (shP (prC u (12 * t + 16 + p)) &&& baP (prC u (12 * t + 16 + q))) 0 = 0
    · simp [h, g, bi]
    · simp [h, g, bi]
theorem canC (hp : p < 12) (hq : q < 12) : F_X0_canBe t u (nI p) (nI q) = some (bi (canP (prC u (12 * t + 16 + p)) (prC u (12 * t + 16 + q)) (u.1 (t + 3) 2)), u) := by
  simp only [F_X0_canBe, F_X0_canBe_22, F_X0_canBe_23, F_X0_widthsAllow, F_X0_widthsAllow_18, gapC hp hq, mkC hp hq, ite10, ite00, bdI_s, bdL_s, bdV_s, gz_0, gz_1, gz_bi, fd_C0, fd_C1, fd_C2, fd_C3, fd_C4, fd_C5, fd_C6, fd_M0, fd_M1, fd_M2, fd_M3, fd_M4, fd_M5, fd_M6, if_true, if_false]
  unfold canP
  by_cases h : u.1 (t + 3) 2 < gapP (prC u (12 * t + 16 + p)) (prC u (12 * t + 16 + q))
  · simp [h, bi, ite10, ite00, bdI_s, bdL_s, bdV_s, gz_0, gz_1, gz_bi, fd_C0, fd_C1, fd_C2, fd_C3, fd_C4, fd_C5, fd_C6, fd_M0, fd_M1, fd_M2, fd_M3, fd_M4, fd_M5, fd_M6, if_true, if_false]
  · cases g : mkP (prC u (12 * t + 16 + p)) (prC u (12 * t + 16 + q))
    · simp [h, bi, mkC hp hq, g, ite10, ite00, bdI_s, bdL_s, bdV_s, gz_0, gz_1, gz_bi, fd_C0, fd_C1, fd_C2, fd_C3, fd_C4, fd_C5, fd_C6, fd_M0, fd_M1, fd_M2, fd_M3, fd_M4, fd_M5, fd_M6, if_true, if_false]
    · simp [h, bi, mkC hp hq, g, ite10, ite00, bdI_s, bdL_s, bdV_s, gz_0, gz_1, gz_bi, fd_C0, fd_C1, fd_C2, fd_C3, fd_C4, fd_C5, fd_C6, fd_M0, fd_M1, fd_M2, fd_M3, fd_M4, fd_M5, fd_M6, if_true, if_false]
theorem gapM (hp : p < 12) (hq : q < 12) : F_X7_apartBy v (nI p) (nI q) = some (gapP (vM v 1 2 p) (vM v 1 2 q), v) := by
  simp only [F_X7_apartBy, F_X7_apartBy_22, tw_M hp, tw_M hq, ite10, ite00, bdI_s, bdL_s, bdV_s, gz_0, gz_1, gz_bi, fd_C0, fd_C1, fd_C2, fd_C3, fd_C4, fd_C5, fd_C6, fd_M0, fd_M1, fd_M2, fd_M3, fd_M4, fd_M5, fd_M6, if_true, if_false]
  unfold gapP
  rw [Int32.zero_sub]
  split <;> rfl
theorem mkM (hp : p < 12) (hq : q < 12) (op : okP (vM v 1 2 p)) (oq : okP (vM v 1 2 q)) : F_X7_marksAllow v (nI p) (nI q) = some (bi (mkP (vM v 1 2 p) (vM v 1 2 q)), v) := by
  simp only [F_X7_marksAllow, F_X7_marksAllow_36, F_X7_marksAllow_41, its_M0 hq, sh_M hp op, sh_M hq oq, hd_M hq oq, mk_eq op oq, ite10, ite00, bdI_s, bdL_s, bdV_s, gz_0, gz_1, gz_bi, fd_C0, fd_C1, fd_C2, fd_C3, fd_C4, fd_C5, fd_C6, fd_M0, fd_M1, fd_M2, fd_M3, fd_M4, fd_M5, fd_M6, if_true, if_false]
  unfold mkP
  by_cases h : (vM v 1 2 q).1 = 4
  · simp [h, bi]
  · by_cases g : lg_cmp (shP (vM v 1 2 p) &&& baP (vM v 1 2 q)) 0 = 0
    · simp [h, g, bi]
    · simp [h, g, bi]
theorem canM (hp : p < 12) (hq : q < 12) (op : okP (vM v 1 2 p)) (oq : okP (vM v 1 2 q)) : F_X7_canBe v (nI p) (nI q) = some (bi (canP (vM v 1 2 p) (vM v 1 2 q) (v.1 1 1)), v) := by
  simp only [F_X7_canBe, F_X7_canBe_28, F_X7_canBe_29, mkM hp hq op oq, gapM hp hq, gd_c1, cl_1, ite10, ite00, bdI_s, bdL_s, bdV_s, gz_0, gz_1, gz_bi, fd_C0, fd_C1, fd_C2, fd_C3, fd_C4, fd_C5, fd_C6, fd_M0, fd_M1, fd_M2, fd_M3, fd_M4, fd_M5, fd_M6, if_true, if_false]
  unfold canP
  cases g : mkP (vM v 1 2 p) (vM v 1 2 q)
  · simp [bi, g, ite10, ite00, bdI_s, bdL_s, bdV_s, gz_0, gz_1, gz_bi, fd_C0, fd_C1, fd_C2, fd_C3, fd_C4, fd_C5, fd_C6, fd_M0, fd_M1, fd_M2, fd_M3, fd_M4, fd_M5, fd_M6, if_true, if_false]
  · by_cases h : v.1 1 1 < gapP (vM v 1 2 p) (vM v 1 2 q)
    · simp [h, bi, g, gapM hp hq, gd_c1, cl_1, ite10, ite00, bdI_s, bdL_s, bdV_s, gz_0, gz_1, gz_bi, fd_C0, fd_C1, fd_C2, fd_C3, fd_C4, fd_C5, fd_C6, fd_M0, fd_M1, fd_M2, fd_M3, fd_M4, fd_M5, fd_M6, if_true, if_false]
    · simp [h, bi, g, gapM hp hq, gd_c1, cl_1, ite10, ite00, bdI_s, bdL_s, bdV_s, gz_0, gz_1, gz_bi, fd_C0, fd_C1, fd_C2, fd_C3, fd_C4, fd_C5, fd_C6, fd_M0, fd_M1, fd_M2, fd_M3, fd_M4, fd_M5, fd_M6, if_true, if_false]
end
/-- two prints, or not -/
theorem two_cases {u v : Mem} {n : Nat} (hA : RAr u v 1 1 2 n) (x y : Int32) : (F_X6_areTwo u x y = some (0, u) ∧ F_X7_areTwo v x y = some (0, v)) ∨ ∃ p q, p < n ∧ q < n ∧ p ≠ q ∧ x = nI p ∧ y = nI q ∧ F_X6_areTwo u x y = some (1, u) ∧ F_X7_areTwo v x y = some (1, v) := by
  rcases pr_cases hA x with ⟨c, m⟩ | ⟨p, hp, ex, c, m⟩
  · exact Or.inl ⟨by simp only [F_X6_areTwo, F_X6_areTwo_31, F_X6_areTwo_32, c, ite10, ite00, bdI_s, bdL_s, bdV_s, gz_0, gz_1, gz_bi, fd_C0, fd_C1, fd_C2, fd_C3, fd_C4, fd_C5, fd_C6, fd_M0, fd_M1, fd_M2, fd_M3, fd_M4, fd_M5, fd_M6, if_true, if_false], by simp only [F_X7_areTwo, F_X7_areTwo_25, F_X7_areTwo_26, m, ite10, ite00, bdI_s, bdL_s, bdV_s, gz_0, gz_1, gz_bi, fd_C0, fd_C1, fd_C2, fd_C3, fd_C4, fd_C5, fd_C6, fd_M0, fd_M1, fd_M2, fd_M3, fd_M4, fd_M5, fd_M6, if_true, if_false]⟩
  rcases pr_cases hA y with ⟨c2, m2⟩ | ⟨q, hq, ey, c2, m2⟩
  · exact Or.inl ⟨by simp [F_X6_areTwo, F_X6_areTwo_31, F_X6_areTwo_32, c, c2, ite10, ite00, bdI_s, bdL_s, bdV_s, gz_0, gz_1, gz_bi, fd_C0, fd_C1, fd_C2, fd_C3, fd_C4, fd_C5, fd_C6, fd_M0, fd_M1, fd_M2, fd_M3, fd_M4, fd_M5, fd_M6, if_true, if_false], by simp [F_X7_areTwo, F_X7_areTwo_25, F_X7_areTwo_26, m, m2, ite10, ite00, bdI_s, bdL_s, bdV_s, gz_0, gz_1, gz_bi, fd_C0, fd_C1, fd_C2, fd_C3, fd_C4, fd_C5, fd_C6, fd_M0, fd_M1, fd_M2, fd_M3, fd_M4, fd_M5, fd_M6, if_true, if_false]⟩
  by_cases e : p = q
  · refine Or.inl ⟨?_, ?_⟩
    · rw [ex] at c; rw [ey] at c2; rw [ex, ey, e] ; rw [e] at c; simp [F_X6_areTwo, F_X6_areTwo_31, F_X6_areTwo_32, c, c2, ite10, ite00, bdI_s, bdL_s, bdV_s, gz_0, gz_1, gz_bi, fd_C0, fd_C1, fd_C2, fd_C3, fd_C4, fd_C5, fd_C6, fd_M0, fd_M1, fd_M2, fd_M3, fd_M4, fd_M5, fd_M6, if_true, if_false]
    · rw [ex] at m; rw [ey] at m2; rw [ex, ey, e] ; rw [e] at m; simp [F_X7_areTwo, F_X7_areTwo_25, F_X7_areTwo_26, m, m2, ite10, ite00, bdI_s, bdL_s, bdV_s, gz_0, gz_1, gz_bi, fd_C0, fd_C1, fd_C2, fd_C3, fd_C4, fd_C5, fd_C6, fd_M0, fd_M1, fd_M2, fd_M3, fd_M4, fd_M5, fd_M6, if_true, if_false]
  · have h12 := hA.1
    have ne : ¬ x = y := by rw [ex, ey]; exact fun z => e ((nI_eq (by omega) (by omega)).mp z)
    exact Or.inr ⟨p, q, hp, hq, e, ex, ey, by simp [F_X6_areTwo, F_X6_areTwo_32, c, c2, ne, ite10, ite00, bdI_s, bdL_s, bdV_s, gz_0, gz_1, gz_bi, fd_C0, fd_C1, fd_C2, fd_C3, fd_C4, fd_C5, fd_C6, fd_M0, fd_M1, fd_M2, fd_M3, fd_M4, fd_M5, fd_M6, if_true, if_false], by simp [F_X7_areTwo, F_X7_areTwo_26, m, m2, ne, ite10, ite00, bdI_s, bdL_s, bdV_s, gz_0, gz_1, gz_bi, fd_C0, fd_C1, fd_C2, fd_C3, fd_C4, fd_C5, fd_C6, fd_M0, fd_M1, fd_M2, fd_M3, fd_M4, fd_M5, fd_M6, if_true, if_false]⟩
theorem RAr.sl {u v : Mem} {n : Nat} (hA : RAr u v 1 1 2 n) : u.1 4 2 = v.1 1 1 := hA.2.2.2.1
theorem ST2 : ST_2 Rel := by
  intro u v x1 x2 hR
  obtain ⟨⟨n, hA⟩, -⟩ := id hR
  rcases pr_cases hA x1 with ⟨c, m⟩ | ⟨p, hp, rfl, c, m⟩
  · exact ⟨(-1000000001 : Int32).toInt64, tC u 0, tM v 0, by simp only [F_X6_marks, c, ite10, ite00, bdI_s, bdL_s, bdV_s, gz_0, gz_1, gz_bi, fd_C0, fd_C1, fd_C2, fd_C3, fd_C4, fd_C5, fd_C6, fd_M0, fd_M1, fd_M2, fd_M3, fd_M4, fd_M5, fd_M6, if_true, if_false], by simp only [F_X7_marks, F_X7_marks_17, m, ite10, ite00, bdI_s, bdL_s, bdV_s, gz_0, gz_1, gz_bi, fd_C0, fd_C1, fd_C2, fd_C3, fd_C4, fd_C5, fd_C6, fd_M0, fd_M1, fd_M2, fd_M3, fd_M4, fd_M5, fd_M6, if_true, if_false], hR.fd 0 (by omega)⟩
  have h12 := hA.lt hp
  have hk := hA.at hp
  have ho := hA.ok hp
  have ek : u.1 (28 + p) 0 = (vM v 1 2 p).1 := by rw [← hk]; rfl
  have ew : u.1 (28 + p) 1 = (vM v 1 2 p).2.1 := by rw [← hk]; rfl
  have ey : u.1 (28 + p) 2 = (vM v 1 2 p).2.2.1 := by rw [← hk]; rfl
  have es : u.1 (28 + p) 3 = (vM v 1 2 p).2.2.2.1 := by rw [← hk]; rfl
  have em : u.2 (28 + p) 4 = (vM v 1 2 p).2.2.2.2 := by rw [← hk]; rfl
  have gC : ∀ {β : Type} (z : Option β), gd (nI p) 12 z = z := fun z => gd_nI z h12 (by omega)
  rcases xlit2 x2 with ⟨h, e0, e1, e2⟩ | rfl | rfl | rfl
  · exact ⟨(-1000000001 : Int32).toInt64, tC u 0, tM v 0, by simp [F_X6_marks, c, gC, e0, e1, e2, ite10, ite00, bdI_s, bdL_s, bdV_s, gz_0, gz_1, gz_bi, fd_C0, fd_C1, fd_C2, fd_C3, fd_C4, fd_C5, fd_C6, fd_M0, fd_M1, fd_M2, fd_M3, fd_M4, fd_M5, fd_M6, if_true, if_false], by simp [F_X7_marks, F_X7_marks_17, m, in_n h, ite10, ite00, bdI_s, bdL_s, bdV_s, gz_0, gz_1, gz_bi, fd_C0, fd_C1, fd_C2, fd_C3, fd_C4, fd_C5, fd_C6, fd_M0, fd_M1, fd_M2, fd_M3, fd_M4, fd_M5, fd_M6, if_true, if_false], hR.fd 0 (by omega)⟩
  · exact ⟨(vM v 1 2 p).2.2.2.2, u, v, by simp [F_X6_marks, c, gC, cl_nI h12, em, ite10, ite00, bdI_s, bdL_s, bdV_s, gz_0, gz_1, gz_bi, fd_C0, fd_C1, fd_C2, fd_C3, fd_C4, fd_C5, fd_C6, fd_M0, fd_M1, fd_M2, fd_M3, fd_M4, fd_M5, fd_M6, if_true, if_false], by simp [F_X7_marks, F_X7_marks_56, m, in_M, bi, gC, cl_nI h12, vM, ite10, ite00, bdI_s, bdL_s, bdV_s, gz_0, gz_1, gz_bi, fd_C0, fd_C1, fd_C2, fd_C3, fd_C4, fd_C5, fd_C6, fd_M0, fd_M1, fd_M2, fd_M3, fd_M4, fd_M5, fd_M6, if_true, if_false], hR⟩
  · exact ⟨shP (vM v 1 2 p), u, v, by simp [F_X6_marks, c, gC, cl_nI h12, sh_C, hk, ite10, ite00, bdI_s, bdL_s, bdV_s, gz_0, gz_1, gz_bi, fd_C0, fd_C1, fd_C2, fd_C3, fd_C4, fd_C5, fd_C6, fd_M0, fd_M1, fd_M2, fd_M3, fd_M4, fd_M5, fd_M6, if_true, if_false], by simp [F_X7_marks, F_X7_marks_56, m, in_M, bi, sh_M h12 ho, ite10, ite00, bdI_s, bdL_s, bdV_s, gz_0, gz_1, gz_bi, fd_C0, fd_C1, fd_C2, fd_C3, fd_C4, fd_C5, fd_C6, fd_M0, fd_M1, fd_M2, fd_M3, fd_M4, fd_M5, fd_M6, if_true, if_false], hR⟩
  · exact ⟨hdP (vM v 1 2 p), u, v, by simp [F_X6_marks, c, gC, cl_nI h12, hd_C, hk, ite10, ite00, bdI_s, bdL_s, bdV_s, gz_0, gz_1, gz_bi, fd_C0, fd_C1, fd_C2, fd_C3, fd_C4, fd_C5, fd_C6, fd_M0, fd_M1, fd_M2, fd_M3, fd_M4, fd_M5, fd_M6, if_true, if_false], by simp [F_X7_marks, F_X7_marks_56, m, in_M, bi, hd_M h12 ho, ite10, ite00, bdI_s, bdL_s, bdV_s, gz_0, gz_1, gz_bi, fd_C0, fd_C1, fd_C2, fd_C3, fd_C4, fd_C5, fd_C6, fd_M0, fd_M1, fd_M2, fd_M3, fd_M4, fd_M5, fd_M6, if_true, if_false], hR⟩
theorem wd_cases (x : Int32) : (∀ u v : Mem, F_X6_isWidth u x = some (0, u) ∧ F_X7_in v x 1 9999 = some (0, v)) ∨ ∃ w, 1 ≤ w ∧ w ≤ 9999 ∧ x = nI w ∧ ∀ u v : Mem, F_X6_isWidth u x = some (1, u) ∧ F_X7_in v x 1 9999 = some (1, v) := by
  by_cases h1 : x < 1
  · exact Or.inl (fun u v => ⟨by simp [F_X6_isWidth, F_X6_isWidth_16, F_X6_isWidth_17, h1, ite10, ite00, bdI_s, bdL_s, bdV_s, gz_0, gz_1, gz_bi, fd_C0, fd_C1, fd_C2, fd_C3, fd_C4, fd_C5, fd_C6, fd_M0, fd_M1, fd_M2, fd_M3, fd_M4, fd_M5, fd_M6, if_true, if_false], in_n (Or.inl h1)⟩)
  by_cases h2 : 9999 < x
  · exact Or.inl (fun u v => ⟨by simp [F_X6_isWidth, F_X6_isWidth_16, F_X6_isWidth_17, h1, h2, ite10, ite00, bdI_s, bdL_s, bdV_s, gz_0, gz_1, gz_bi, fd_C0, fd_C1, fd_C2, fd_C3, fd_C4, fd_C5, fd_C6, fd_M0, fd_M1, fd_M2, fd_M3, fd_M4, fd_M5, fd_M6, if_true, if_false], in_n (Or.inr h2)⟩)
  · rcases rng 9999 9999 rfl (by omega) x with (h | h) | ⟨j, hj, rfl⟩
    · exact absurd (show x < 1 by rw [Int32.lt_iff_toInt_lt] at h ⊢; rw [show (0 : Int32).toInt = 0 from rfl] at h; rw [show (1 : Int32).toInt = 1 from rfl]; omega) h1
    · exact absurd h h2
    · refine Or.inr ⟨j, ?_, hj, rfl, fun u v => ⟨by simp [F_X6_isWidth, F_X6_isWidth_17, h1, h2, ite10, ite00, bdI_s, bdL_s, bdV_s, gz_0, gz_1, gz_bi, fd_C0, fd_C1, fd_C2, fd_C3, fd_C4, fd_C5, fd_C6, fd_M0, fd_M1, fd_M2, fd_M3, fd_M4, fd_M5, fd_M6, if_true, if_false], in_y h1 h2⟩⟩
      rcases Nat.eq_zero_or_pos j with rfl | g
      · exact absurd (by decide) h1
      · exact g
theorem yr_cases (x : Int32) : (∀ u v : Mem, F_X6_isYear u x = some (0, u) ∧ F_X7_in v x 0 2000 = some (0, v)) ∨ ∃ y, y ≤ 2000 ∧ x = nI y ∧ ∀ u v : Mem, F_X6_isYear u x = some (1, u) ∧ F_X7_in v x 0 2000 = some (1, v) := by
  rcases rng 2000 2000 rfl (by omega) x with h | ⟨j, hj, rfl⟩
  · refine Or.inl (fun u v => ⟨?_, in_n h⟩)
    by_cases h1 : x < 0
    · simp [F_X6_isYear, F_X6_isYear_15, F_X6_isYear_16, h1, ite10, ite00, bdI_s, bdL_s, bdV_s, gz_0, gz_1, gz_bi, fd_C0, fd_C1, fd_C2, fd_C3, fd_C4, fd_C5, fd_C6, fd_M0, fd_M1, fd_M2, fd_M3, fd_M4, fd_M5, fd_M6, if_true, if_false]
    · simp [F_X6_isYear, F_X6_isYear_15, F_X6_isYear_16, h1, h.resolve_left h1, ite10, ite00, bdI_s, bdL_s, bdV_s, gz_0, gz_1, gz_bi, fd_C0, fd_C1, fd_C2, fd_C3, fd_C4, fd_C5, fd_C6, fd_M0, fd_M1, fd_M2, fd_M3, fd_M4, fd_M5, fd_M6, if_true, if_false]
  · have h1 : ¬ nI j < 0 := nI_pos (by omega)
    have h2 : ¬ (2000 : Int32) < nI j := nI_nlt (a := 2000) hj (by omega)
    exact Or.inr ⟨j, hj, rfl, fun u v => ⟨by simp [F_X6_isYear, F_X6_isYear_16, h1, h2, ite10, ite00, bdI_s, bdL_s, bdV_s, gz_0, gz_1, gz_bi, fd_C0, fd_C1, fd_C2, fd_C3, fd_C4, fd_C5, fd_C6, fd_M0, fd_M1, fd_M2, fd_M3, fd_M4, fd_M5, fd_M6, if_true, if_false], in_y h1 h2⟩⟩
theorem sl_cases (x : Int32) : (∀ u v : Mem, F_X6_isSlack u x = some (0, u) ∧ F_X7_in v x 0 999 = some (0, v)) ∨ ∃ y, y ≤ 999 ∧ x = nI y ∧ ∀ u v : Mem, F_X6_isSlack u x = some (1, u) ∧ F_X7_in v x 0 999 = some (1, v) := by
  rcases rng 999 999 rfl (by omega) x with h | ⟨j, hj, rfl⟩
  · refine Or.inl (fun u v => ⟨?_, in_n h⟩)
    by_cases h1 : x < 0
    · simp [F_X6_isSlack, F_X6_isSlack_15, F_X6_isSlack_16, h1, ite10, ite00, bdI_s, bdL_s, bdV_s, gz_0, gz_1, gz_bi, fd_C0, fd_C1, fd_C2, fd_C3, fd_C4, fd_C5, fd_C6, fd_M0, fd_M1, fd_M2, fd_M3, fd_M4, fd_M5, fd_M6, if_true, if_false]
    · simp [F_X6_isSlack, F_X6_isSlack_15, F_X6_isSlack_16, h1, h.resolve_left h1, ite10, ite00, bdI_s, bdL_s, bdV_s, gz_0, gz_1, gz_bi, fd_C0, fd_C1, fd_C2, fd_C3, fd_C4, fd_C5, fd_C6, fd_M0, fd_M1, fd_M2, fd_M3, fd_M4, fd_M5, fd_M6, if_true, if_false]
  · have h1 : ¬ nI j < 0 := nI_pos (by omega)
    have h2 : ¬ (999 : Int32) < nI j := nI_nlt (a := 999) hj (by omega)
    exact Or.inr ⟨j, hj, rfl, fun u v => ⟨by simp [F_X6_isSlack, F_X6_isSlack_16, h1, h2, ite10, ite00, bdI_s, bdL_s, bdV_s, gz_0, gz_1, gz_bi, fd_C0, fd_C1, fd_C2, fd_C3, fd_C4, fd_C5, fd_C6, fd_M0, fd_M1, fd_M2, fd_M3, fd_M4, fd_M5, fd_M6, if_true, if_false], in_y h1 h2⟩⟩
theorem pl_cases (x : Int32) : (∀ u v : Mem, F_X6_isPlace u x = some (0, u) ∧ F_X7_in v x 0 39 = some (0, v)) ∨ ∃ y, y < 40 ∧ x = nI y ∧ ∀ u v : Mem, F_X6_isPlace u x = some (1, u) ∧ F_X7_in v x 0 39 = some (1, v) := by
  rcases pk_ix x (n := 40) (by omega) with h | h | ⟨j, hj, rfl⟩
  · exact Or.inl (fun u v => ⟨by simp [F_X6_isPlace, F_X6_isPlace_14, F_X6_isPlace_15, h, ite10, ite00, bdI_s, bdL_s, bdV_s, gz_0, gz_1, gz_bi, fd_C0, fd_C1, fd_C2, fd_C3, fd_C4, fd_C5, fd_C6, fd_M0, fd_M1, fd_M2, fd_M3, fd_M4, fd_M5, fd_M6, if_true, if_false], in_n (Or.inl h)⟩)
  · refine Or.inl (fun u v => ⟨?_, in_n (Or.inr (ple_lt (n := 39) h (by omega)))⟩)
    by_cases h1 : x < 0
    · simp [F_X6_isPlace, F_X6_isPlace_14, F_X6_isPlace_15, h1, ite10, ite00, bdI_s, bdL_s, bdV_s, gz_0, gz_1, gz_bi, fd_C0, fd_C1, fd_C2, fd_C3, fd_C4, fd_C5, fd_C6, fd_M0, fd_M1, fd_M2, fd_M3, fd_M4, fd_M5, fd_M6, if_true, if_false]
    · simp [F_X6_isPlace, F_X6_isPlace_14, F_X6_isPlace_15, h1, show (40 : Int32) ≤ x from h, ite10, ite00, bdI_s, bdL_s, bdV_s, gz_0, gz_1, gz_bi, fd_C0, fd_C1, fd_C2, fd_C3, fd_C4, fd_C5, fd_C6, fd_M0, fd_M1, fd_M2, fd_M3, fd_M4, fd_M5, fd_M6, if_true, if_false]
  · have h1 : ¬ nI j < 0 := nI_pos (by omega)
    have h2 : ¬ (40 : Int32) ≤ nI j := nI_ge (b := 40) hj (by omega)
    exact Or.inr ⟨j, hj, rfl, fun u v => ⟨by simp [F_X6_isPlace, F_X6_isPlace_15, h1, h2, ite10, ite00, bdI_s, bdL_s, bdV_s, gz_0, gz_1, gz_bi, fd_C0, fd_C1, fd_C2, fd_C3, fd_C4, fd_C5, fd_C6, fd_M0, fd_M1, fd_M2, fd_M3, fd_M4, fd_M5, fd_M6, if_true, if_false], in_y h1 (nle_lt (n := 39) hj (by omega))⟩⟩
theorem ST3 : ST_3 Rel := by
  intro u v x1 x2 x3 hR
  obtain ⟨⟨n, hA⟩, -⟩ := id hR
  rcases pr_cases hA x1 with ⟨c, m⟩ | ⟨p, hp, rfl, c, m⟩
  · exact ⟨-1000000001, tC u 0, tM v 0, by simp only [F_X6_set, c, ite10, ite00, bdI_s, bdL_s, bdV_s, gz_0, gz_1, gz_bi, fd_C0, fd_C1, fd_C2, fd_C3, fd_C4, fd_C5, fd_C6, fd_M0, fd_M1, fd_M2, fd_M3, fd_M4, fd_M5, fd_M6, if_true, if_false], by simp only [F_X7_set, F_X7_set_16, m, ite10, ite00, bdI_s, bdL_s, bdV_s, gz_0, gz_1, gz_bi, fd_C0, fd_C1, fd_C2, fd_C3, fd_C4, fd_C5, fd_C6, fd_M0, fd_M1, fd_M2, fd_M3, fd_M4, fd_M5, fd_M6, if_true, if_false], hR.fd 0 (by omega)⟩
  have h12 := hA.lt hp
  have hk := hA.at hp
  have ho := hA.ok hp
  have ek : u.1 (28 + p) 0 = (vM v 1 2 p).1 := by rw [← hk]; rfl
  have ew : u.1 (28 + p) 1 = (vM v 1 2 p).2.1 := by rw [← hk]; rfl
  have ey : u.1 (28 + p) 2 = (vM v 1 2 p).2.2.1 := by rw [← hk]; rfl
  have es : u.1 (28 + p) 3 = (vM v 1 2 p).2.2.2.1 := by rw [← hk]; rfl
  have em : u.2 (28 + p) 4 = (vM v 1 2 p).2.2.2.2 := by rw [← hk]; rfl
  have gC : ∀ {β : Type} (z : Option β), gd (nI p) 12 z = z := fun z => gd_nI z h12 (by omega)
  by_cases e1 : x2 = 1
  · subst e1
    rcases wd_cases x3 with hw | ⟨w, w1, w2, rfl, hw⟩
    · exact ⟨-1000000001, tC u 0, tM v 0, by simp [F_X6_set, F_X6_set_57, F_X6_set_85, c, gC, (hw u v).1, ite10, ite00, bdI_s, bdL_s, bdV_s, gz_0, gz_1, gz_bi, fd_C0, fd_C1, fd_C2, fd_C3, fd_C4, fd_C5, fd_C6, fd_M0, fd_M1, fd_M2, fd_M3, fd_M4, fd_M5, fd_M6, if_true, if_false], by simp [F_X7_set, F_X7_set_16, F_X7_isTold, F_X7_isTold_37, m, (hw u v).2, ite10, ite00, bdI_s, bdL_s, bdV_s, gz_0, gz_1, gz_bi, fd_C0, fd_C1, fd_C2, fd_C3, fd_C4, fd_C5, fd_C6, fd_M0, fd_M1, fd_M2, fd_M3, fd_M4, fd_M5, fd_M6, if_true, if_false], hR.fd 0 (by omega)⟩
    · have s1 := sets_M (v := v) (w := 1) (x := nI w) h12 (by omega)
      rw [show nI 1 = (1 : Int32) from rfl] at s1
      refine ⟨(vM v 1 2 p).2.1, sI u (28 + p) 1 (nI w), sI v 1 (2 + 4 * p + 1) (nI w), by simp [F_X6_set, c, gC, cl_nI h12, (hw u v).1, ew, ite10, ite00, bdI_s, bdL_s, bdV_s, gz_0, gz_1, gz_bi, fd_C0, fd_C1, fd_C2, fd_C3, fd_C4, fd_C5, fd_C6, fd_M0, fd_M1, fd_M2, fd_M3, fd_M4, fd_M5, fd_M6, if_true, if_false], by simp [F_X7_set, F_X7_isTold, F_X7_isTold_37, m, (hw u v).2, its_M1 h12, s1, ite10, ite00, bdI_s, bdL_s, bdV_s, gz_0, gz_1, gz_bi, fd_C0, fd_C1, fd_C2, fd_C3, fd_C4, fd_C5, fd_C6, fd_M0, fd_M1, fd_M2, fd_M3, fd_M4, fd_M5, fd_M6, if_true, if_false], hR.seti hA hp (by omega) ?_ ?_⟩
      · rw [prC_1, vM_1, hk]
      · rw [vM_1]; exact ⟨ho.1, ⟨w, w1, w2, rfl⟩, ho.2.2⟩
  · by_cases e2 : x2 = 2
    · subst e2
      rcases yr_cases x3 with hw | ⟨w, w2, rfl, hw⟩
      · exact ⟨-1000000001, tC u 0, tM v 0, by simp [F_X6_set, F_X6_set_57, F_X6_set_85, c, gC, (hw u v).1, ite10, ite00, bdI_s, bdL_s, bdV_s, gz_0, gz_1, gz_bi, fd_C0, fd_C1, fd_C2, fd_C3, fd_C4, fd_C5, fd_C6, fd_M0, fd_M1, fd_M2, fd_M3, fd_M4, fd_M5, fd_M6, if_true, if_false], by simp [F_X7_set, F_X7_set_16, F_X7_isTold, F_X7_isTold_36, F_X7_isTold_37, m, (hw u v).2, ite10, ite00, bdI_s, bdL_s, bdV_s, gz_0, gz_1, gz_bi, fd_C0, fd_C1, fd_C2, fd_C3, fd_C4, fd_C5, fd_C6, fd_M0, fd_M1, fd_M2, fd_M3, fd_M4, fd_M5, fd_M6, if_true, if_false], hR.fd 0 (by omega)⟩
      · have s1 := sets_M (v := v) (w := 2) (x := nI w) h12 (by omega)
        rw [show nI 2 = (2 : Int32) from rfl] at s1
        refine ⟨(vM v 1 2 p).2.2.1, sI u (28 + p) 2 (nI w), sI v 1 (2 + 4 * p + 2) (nI w), by simp [F_X6_set, F_X6_set_57, c, gC, cl_nI h12, (hw u v).1, ey, ite10, ite00, bdI_s, bdL_s, bdV_s, gz_0, gz_1, gz_bi, fd_C0, fd_C1, fd_C2, fd_C3, fd_C4, fd_C5, fd_C6, fd_M0, fd_M1, fd_M2, fd_M3, fd_M4, fd_M5, fd_M6, if_true, if_false], by simp [F_X7_set, F_X7_isTold, F_X7_isTold_37, m, (hw u v).2, its_M2 h12, s1, ite10, ite00, bdI_s, bdL_s, bdV_s, gz_0, gz_1, gz_bi, fd_C0, fd_C1, fd_C2, fd_C3, fd_C4, fd_C5, fd_C6, fd_M0, fd_M1, fd_M2, fd_M3, fd_M4, fd_M5, fd_M6, if_true, if_false], hR.seti hA hp (by omega) ?_ ?_⟩
        · rw [prC_2, vM_2, hk]
        · rw [vM_2]; exact ⟨ho.1, ho.2.1, ⟨w, w2, rfl⟩, ho.2.2.2⟩
    · exact ⟨-1000000001, tC u 0, tM v 0, by simp [F_X6_set, F_X6_set_57, F_X6_set_85, c, gC, e1, e2, ite10, ite00, bdI_s, bdL_s, bdV_s, gz_0, gz_1, gz_bi, fd_C0, fd_C1, fd_C2, fd_C3, fd_C4, fd_C5, fd_C6, fd_M0, fd_M1, fd_M2, fd_M3, fd_M4, fd_M5, fd_M6, if_true, if_false], by simp [F_X7_set, F_X7_set_16, F_X7_isTold, F_X7_isTold_36, F_X7_isTold_37, m, e1, e2, ite10, ite00, bdI_s, bdL_s, bdV_s, gz_0, gz_1, gz_bi, fd_C0, fd_C1, fd_C2, fd_C3, fd_C4, fd_C5, fd_C6, fd_M0, fd_M1, fd_M2, fd_M3, fd_M4, fd_M5, fd_M6, if_true, if_false], hR.fd 0 (by omega)⟩
theorem pl_ok : ∀ k, k < 40 → ∀ i, i < 64 → (b6 ((1 : Int64) <<< ((nI k).toInt64 &&& 63)) i = true → b6 1099511627775 i = true) := by decide +kernel
theorem ok_mark {x : PV} {m : Int64} (h : okP x) (g : ∀ i, i < 64 → b6 m i = true → b6 1099511627775 i = true) : okP (x.1, x.2.1, x.2.2.1, x.2.2.2.1, m) := by
  refine ⟨h.1, h.2.1, h.2.2.1, h.2.2.2.1, ?_⟩
  apply b6_ext
  intro i hi
  rw [b6_and]
  cases e : b6 m i
  · rfl
  · rw [g i hi e]; rfl
theorem ST4 : ST_4 Rel := by
  intro u v x1 x2 x3 hz hR
  obtain ⟨⟨n, hA⟩, -⟩ := id hR
  rcases pr_cases hA x1 with ⟨c, m⟩ | ⟨p, hp, rfl, c, m⟩
  · exact ⟨-1000000001, tC u 0, tM v 0, by simp only [F_X6_scratch, F_X6_scratch_18, c, ite10, ite00, bdI_s, bdL_s, bdV_s, gz_0, gz_1, gz_bi, fd_C0, fd_C1, fd_C2, fd_C3, fd_C4, fd_C5, fd_C6, fd_M0, fd_M1, fd_M2, fd_M3, fd_M4, fd_M5, fd_M6, if_true, if_false], by simp only [F_X7_scratch, F_X7_scratch_18, m, ite10, ite00, bdI_s, bdL_s, bdV_s, gz_0, gz_1, gz_bi, fd_C0, fd_C1, fd_C2, fd_C3, fd_C4, fd_C5, fd_C6, fd_M0, fd_M1, fd_M2, fd_M3, fd_M4, fd_M5, fd_M6, if_true, if_false], hR.fd 0 (by omega)⟩
  have h12 := hA.lt hp
  have hk := hA.at hp
  have ho := hA.ok hp
  have ek : u.1 (28 + p) 0 = (vM v 1 2 p).1 := by rw [← hk]; rfl
  have ew : u.1 (28 + p) 1 = (vM v 1 2 p).2.1 := by rw [← hk]; rfl
  have ey : u.1 (28 + p) 2 = (vM v 1 2 p).2.2.1 := by rw [← hk]; rfl
  have es : u.1 (28 + p) 3 = (vM v 1 2 p).2.2.2.1 := by rw [← hk]; rfl
  have em : u.2 (28 + p) 4 = (vM v 1 2 p).2.2.2.2 := by rw [← hk]; rfl
  have gC : ∀ {β : Type} (z : Option β), gd (nI p) 12 z = z := fun z => gd_nI z h12 (by omega)
  rcases pl_cases x2 with hw | ⟨w, w1, rfl, hw⟩
  · exact ⟨-1000000001, tC u 0, tM v 0, by simp [F_X6_scratch, F_X6_scratch_18, c, (hw u v).1, ite10, ite00, bdI_s, bdL_s, bdV_s, gz_0, gz_1, gz_bi, fd_C0, fd_C1, fd_C2, fd_C3, fd_C4, fd_C5, fd_C6, fd_M0, fd_M1, fd_M2, fd_M3, fd_M4, fd_M5, fd_M6, if_true, if_false], by simp [F_X7_scratch, F_X7_scratch_18, m, (hw u v).2, ite10, ite00, bdI_s, bdL_s, bdV_s, gz_0, gz_1, gz_bi, fd_C0, fd_C1, fd_C2, fd_C3, fd_C4, fd_C5, fd_C6, fd_M0, fd_M1, fd_M2, fd_M3, fd_M4, fd_M5, fd_M6, if_true, if_false], hR.fd 0 (by omega)⟩
  have em2 : v.2 2 p = (vM v 1 2 p).2.2.2.2 := rfl
  rcases hz with rfl | rfl
  · refine ⟨if lg_cmp ((vM v 1 2 p).2.2.2.2 &&& (1 <<< ((nI w).toInt64 &&& 63) ^^^ -1)) (vM v 1 2 p).2.2.2.2 = 0 then 0 else 1, sL u (28 + p) 4 ((vM v 1 2 p).2.2.2.2 &&& (1 <<< ((nI w).toInt64 &&& 63) ^^^ -1)), sL v 2 p ((vM v 1 2 p).2.2.2.2 &&& (1 <<< ((nI w).toInt64 &&& 63) ^^^ -1)), ?_, ?_, hR.setl hA hp ?_⟩
    · simp only [F_X6_scratch, F_X6_scratch_71, F_X6_scratch_90, c, (hw u v).1, gC, cl_nI h12, em, sL_eq, ite10, ite00, bdI_s, bdL_s, bdV_s, gz_0, gz_1, gz_bi, fd_C0, fd_C1, fd_C2, fd_C3, fd_C4, fd_C5, fd_C6, fd_M0, fd_M1, fd_M2, fd_M3, fd_M4, fd_M5, fd_M6, if_true, if_false]
      split <;> rfl
    · simp only [F_X7_scratch, F_X7_scratch_61, F_X7_scratch_79, m, (hw u v).2, gC, cl_nI h12, em2, sL_eq, ite10, ite00, bdI_s, bdL_s, bdV_s, gz_0, gz_1, gz_bi, fd_C0, fd_C1, fd_C2, fd_C3, fd_C4, fd_C5, fd_C6, fd_M0, fd_M1, fd_M2, fd_M3, fd_M4, fd_M5, fd_M6, if_true, if_false]
      split <;> rfl
    · rw [vM_L]
      refine ok_mark ho (fun i hi h => ?_)
      rw [b6_and] at h
      simp at h
      exact ok_b6 ho h.1
  · refine ⟨if lg_cmp ((vM v 1 2 p).2.2.2.2 ||| (1 <<< ((nI w).toInt64 &&& 63))) (vM v 1 2 p).2.2.2.2 = 0 then 0 else 1, sL u (28 + p) 4 ((vM v 1 2 p).2.2.2.2 ||| (1 <<< ((nI w).toInt64 &&& 63))), sL v 2 p ((vM v 1 2 p).2.2.2.2 ||| (1 <<< ((nI w).toInt64 &&& 63))), ?_, ?_, hR.setl hA hp ?_⟩
    · simp only [F_X6_scratch, F_X6_scratch_71, F_X6_scratch_90, c, (hw u v).1, gC, cl_nI h12, em, sL_eq, ite10, ite00, bdI_s, bdL_s, bdV_s, gz_0, gz_1, gz_bi, fd_C0, fd_C1, fd_C2, fd_C3, fd_C4, fd_C5, fd_C6, fd_M0, fd_M1, fd_M2, fd_M3, fd_M4, fd_M5, fd_M6, if_true, if_false]
      split <;> rfl
    · simp only [F_X7_scratch, F_X7_scratch_61, F_X7_scratch_79, m, (hw u v).2, gC, cl_nI h12, em2, sL_eq, ite10, ite00, bdI_s, bdL_s, bdV_s, gz_0, gz_1, gz_bi, fd_C0, fd_C1, fd_C2, fd_C3, fd_C4, fd_C5, fd_C6, fd_M0, fd_M1, fd_M2, fd_M3, fd_M4, fd_M5, fd_M6, if_true, if_false]
      split <;> rfl
    · rw [vM_L]
      refine ok_mark ho (fun i hi h => ?_)
      rw [b6_or] at h
      simp at h
      rcases h with h | h
      · exact ok_b6 ho h
      · exact pl_ok w w1 i hi h
theorem ST5 : ST_5 Rel := by
  intro u v x1 hR
  obtain ⟨⟨n, hA⟩, -⟩ := id hR
  rcases pr_cases hA x1 with ⟨c, m⟩ | ⟨p, hp, rfl, c, m⟩
  · exact ⟨-1000000001, tC u 0, tM v 0, by simp only [F_X6_look, c, ite10, ite00, bdI_s, bdL_s, bdV_s, gz_0, gz_1, gz_bi, fd_C0, fd_C1, fd_C2, fd_C3, fd_C4, fd_C5, fd_C6, fd_M0, fd_M1, fd_M2, fd_M3, fd_M4, fd_M5, fd_M6, if_true, if_false], by simp only [F_X7_look, m, ite10, ite00, bdI_s, bdL_s, bdV_s, gz_0, gz_1, gz_bi, fd_C0, fd_C1, fd_C2, fd_C3, fd_C4, fd_C5, fd_C6, fd_M0, fd_M1, fd_M2, fd_M3, fd_M4, fd_M5, fd_M6, if_true, if_false], hR.fd 0 (by omega)⟩
  have h12 := hA.lt hp
  have hk := hA.at hp
  have ho := hA.ok hp
  have ek : u.1 (28 + p) 0 = (vM v 1 2 p).1 := by rw [← hk]; rfl
  have ew : u.1 (28 + p) 1 = (vM v 1 2 p).2.1 := by rw [← hk]; rfl
  have ey : u.1 (28 + p) 2 = (vM v 1 2 p).2.2.1 := by rw [← hk]; rfl
  have es : u.1 (28 + p) 3 = (vM v 1 2 p).2.2.2.1 := by rw [← hk]; rfl
  have em : u.2 (28 + p) 4 = (vM v 1 2 p).2.2.2.2 := by rw [← hk]; rfl
  have gC : ∀ {β : Type} (z : Option β), gd (nI p) 12 z = z := fun z => gd_nI z h12 (by omega)
  have s1 := sets_M (v := v) (w := 3) (x := 1) h12 (by omega)
  rw [show nI 3 = (3 : Int32) from rfl] at s1
  refine ⟨1 - (vM v 1 2 p).2.2.2.1, sI u (28 + p) 3 1, sI v 1 (2 + 4 * p + 3) 1, ?_, by simp [F_X7_look, m, its_M3 h12, s1, ite10, ite00, bdI_s, bdL_s, bdV_s, gz_0, gz_1, gz_bi, fd_C0, fd_C1, fd_C2, fd_C3, fd_C4, fd_C5, fd_C6, fd_M0, fd_M1, fd_M2, fd_M3, fd_M4, fd_M5, fd_M6, if_true, if_false], hR.seti hA hp (by omega) ?_ ?_⟩
  · rcases ho.2.2.2.1 with z | z
    · simp [F_X6_look, F_X6_look_40, c, gC, cl_nI h12, es, z, ite10, ite00, bdI_s, bdL_s, bdV_s, gz_0, gz_1, gz_bi, fd_C0, fd_C1, fd_C2, fd_C3, fd_C4, fd_C5, fd_C6, fd_M0, fd_M1, fd_M2, fd_M3, fd_M4, fd_M5, fd_M6, if_true, if_false]
    · simp [F_X6_look, F_X6_look_40, c, gC, cl_nI h12, es, z, ite10, ite00, bdI_s, bdL_s, bdV_s, gz_0, gz_1, gz_bi, fd_C0, fd_C1, fd_C2, fd_C3, fd_C4, fd_C5, fd_C6, fd_M0, fd_M1, fd_M2, fd_M3, fd_M4, fd_M5, fd_M6, if_true, if_false]
  · rw [prC_3, vM_3, hk]
  · rw [vM_3]; exact ⟨ho.1, ho.2.1, ho.2.2.1, Or.inr rfl, ho.2.2.2.2⟩
theorem ST6 : ST_6 Rel := by
  intro u v x1 x2 hR
  obtain ⟨⟨n, hA⟩, -⟩ := id hR
  rcases pr_cases hA x1 with ⟨c, m⟩ | ⟨p, hp, rfl, c, m⟩
  · exact ⟨-1000000001, tC u 0, tM v 0, by simp only [F_X6_turn, F_X6_turn_18, c, ite10, ite00, bdI_s, bdL_s, bdV_s, gz_0, gz_1, gz_bi, fd_C0, fd_C1, fd_C2, fd_C3, fd_C4, fd_C5, fd_C6, fd_M0, fd_M1, fd_M2, fd_M3, fd_M4, fd_M5, fd_M6, if_true, if_false], by simp only [F_X7_turn, F_X7_turn_15, m, ite10, ite00, bdI_s, bdL_s, bdV_s, gz_0, gz_1, gz_bi, fd_C0, fd_C1, fd_C2, fd_C3, fd_C4, fd_C5, fd_C6, fd_M0, fd_M1, fd_M2, fd_M3, fd_M4, fd_M5, fd_M6, if_true, if_false], hR.fd 0 (by omega)⟩
  have h12 := hA.lt hp
  have hk := hA.at hp
  have ho := hA.ok hp
  have ek : u.1 (28 + p) 0 = (vM v 1 2 p).1 := by rw [← hk]; rfl
  have ew : u.1 (28 + p) 1 = (vM v 1 2 p).2.1 := by rw [← hk]; rfl
  have ey : u.1 (28 + p) 2 = (vM v 1 2 p).2.2.1 := by rw [← hk]; rfl
  have es : u.1 (28 + p) 3 = (vM v 1 2 p).2.2.2.1 := by rw [← hk]; rfl
  have em : u.2 (28 + p) 4 = (vM v 1 2 p).2.2.2.2 := by rw [← hk]; rfl
  have gC : ∀ {β : Type} (z : Option β), gd (nI p) 12 z = z := fun z => gd_nI z h12 (by omega)
  rcases kd_cases x2 with hw | ⟨k, k1, rfl, hw⟩
  · exact ⟨-1000000001, tC u 0, tM v 0, by simp [F_X6_turn, F_X6_turn_18, c, (hw u v).1, ite10, ite00, bdI_s, bdL_s, bdV_s, gz_0, gz_1, gz_bi, fd_C0, fd_C1, fd_C2, fd_C3, fd_C4, fd_C5, fd_C6, fd_M0, fd_M1, fd_M2, fd_M3, fd_M4, fd_M5, fd_M6, if_true, if_false], by simp [F_X7_turn, F_X7_turn_15, m, (hw u v).2, ite10, ite00, bdI_s, bdL_s, bdV_s, gz_0, gz_1, gz_bi, fd_C0, fd_C1, fd_C2, fd_C3, fd_C4, fd_C5, fd_C6, fd_M0, fd_M1, fd_M2, fd_M3, fd_M4, fd_M5, fd_M6, if_true, if_false], hR.fd 0 (by omega)⟩
  have s1 := sets_M (v := v) (w := 0) (x := nI k) h12 (by omega)
  rw [show nI 0 = (0 : Int32) from rfl] at s1
  refine ⟨(vM v 1 2 p).1, sI u (28 + p) 0 (nI k), sI v 1 (2 + 4 * p + 0) (nI k), by simp [F_X6_turn, c, (hw u v).1, gC, cl_nI h12, ek, ite10, ite00, bdI_s, bdL_s, bdV_s, gz_0, gz_1, gz_bi, fd_C0, fd_C1, fd_C2, fd_C3, fd_C4, fd_C5, fd_C6, fd_M0, fd_M1, fd_M2, fd_M3, fd_M4, fd_M5, fd_M6, if_true, if_false], by simp [F_X7_turn, m, (hw u v).2, its_M0 h12, s1, ite10, ite00, bdI_s, bdL_s, bdV_s, gz_0, gz_1, gz_bi, fd_C0, fd_C1, fd_C2, fd_C3, fd_C4, fd_C5, fd_C6, fd_M0, fd_M1, fd_M2, fd_M3, fd_M4, fd_M5, fd_M6, if_true, if_false], hR.seti hA hp (by omega) ?_ ?_⟩
  · rw [prC_0, vM_0, hk]
  · rw [vM_0]; exact ⟨⟨k, k1, rfl⟩, ho.2⟩
def undN (k j : Nat) : Bool := j == 0 || j == k || (j == 1 && k == 5) || (j == 2 && k == 3)
theorem und_C (u : Mem) {k j : Nat} (hk : k < 6) (hj : j < 6) : F_X6_isUnder u (nI k) (nI j) = some (bi (undN k j), u) := by
  rcases (show k = 0 ∨ k = 1 ∨ k = 2 ∨ k = 3 ∨ k = 4 ∨ k = 5 by omega) with rfl | rfl | rfl | rfl | rfl | rfl <;> rcases (show j = 0 ∨ j = 1 ∨ j = 2 ∨ j = 3 ∨ j = 4 ∨ j = 5 by omega) with rfl | rfl | rfl | rfl | rfl | rfl <;> rfl
theorem und_M (u : Mem) {k j : Nat} (hk : k < 6) (hj : j < 6) : F_X7_isUnder u (nI k) (nI j) = some (bi (undN k j), u) := by
  rcases (show k = 0 ∨ k = 1 ∨ k = 2 ∨ k = 3 ∨ k = 4 ∨ k = 5 by omega) with rfl | rfl | rfl | rfl | rfl | rfl <;> rcases (show j = 0 ∨ j = 1 ∨ j = 2 ∨ j = 3 ∨ j = 4 ∨ j = 5 by omega) with rfl | rfl | rfl | rfl | rfl | rfl <;> rfl
theorem ST7 : ST_7 Rel := by
  intro u v x1 x2 hR
  obtain ⟨⟨n, hA⟩, -⟩ := id hR
  rcases pr_cases hA x1 with ⟨c, m⟩ | ⟨p, hp, rfl, c, m⟩
  · exact ⟨-1000000001, tC u 0, tM v 0, by simp only [F_X6_as, F_X6_as_18, c, ite10, ite00, bdI_s, bdL_s, bdV_s, gz_0, gz_1, gz_bi, fd_C0, fd_C1, fd_C2, fd_C3, fd_C4, fd_C5, fd_C6, fd_M0, fd_M1, fd_M2, fd_M3, fd_M4, fd_M5, fd_M6, if_true, if_false], by simp only [F_X7_as, F_X7_as_15, m, ite10, ite00, bdI_s, bdL_s, bdV_s, gz_0, gz_1, gz_bi, fd_C0, fd_C1, fd_C2, fd_C3, fd_C4, fd_C5, fd_C6, fd_M0, fd_M1, fd_M2, fd_M3, fd_M4, fd_M5, fd_M6, if_true, if_false], hR.fd 0 (by omega)⟩
  have h12 := hA.lt hp
  have hk := hA.at hp
  have ho := hA.ok hp
  have ek : u.1 (28 + p) 0 = (vM v 1 2 p).1 := by rw [← hk]; rfl
  have ew : u.1 (28 + p) 1 = (vM v 1 2 p).2.1 := by rw [← hk]; rfl
  have ey : u.1 (28 + p) 2 = (vM v 1 2 p).2.2.1 := by rw [← hk]; rfl
  have es : u.1 (28 + p) 3 = (vM v 1 2 p).2.2.2.1 := by rw [← hk]; rfl
  have em : u.2 (28 + p) 4 = (vM v 1 2 p).2.2.2.2 := by rw [← hk]; rfl
  have gC : ∀ {β : Type} (z : Option β), gd (nI p) 12 z = z := fun z => gd_nI z h12 (by omega)
  rcases kd_cases x2 with hw | ⟨j, j1, rfl, hw⟩
  · exact ⟨-1000000001, tC u 0, tM v 0, by simp [F_X6_as, F_X6_as_18, c, (hw u v).1, ite10, ite00, bdI_s, bdL_s, bdV_s, gz_0, gz_1, gz_bi, fd_C0, fd_C1, fd_C2, fd_C3, fd_C4, fd_C5, fd_C6, fd_M0, fd_M1, fd_M2, fd_M3, fd_M4, fd_M5, fd_M6, if_true, if_false], by simp [F_X7_as, F_X7_as_15, m, (hw u v).2, ite10, ite00, bdI_s, bdL_s, bdV_s, gz_0, gz_1, gz_bi, fd_C0, fd_C1, fd_C2, fd_C3, fd_C4, fd_C5, fd_C6, fd_M0, fd_M1, fd_M2, fd_M3, fd_M4, fd_M5, fd_M6, if_true, if_false], hR.fd 0 (by omega)⟩
  obtain ⟨k, k1, ek2⟩ := ho.1
  have uC := und_C u k1 j1
  have uM := und_M v k1 j1
  rw [← ek2] at uC uM
  cases hb : undN k j
  · rw [hb] at uC uM
    exact ⟨-1000000003, tC u 2, tM v 2, by simp [F_X6_as, F_X6_as_59, c, (hw u v).1, gC, cl_nI h12, ek, uC, bi, ite10, ite00, bdI_s, bdL_s, bdV_s, gz_0, gz_1, gz_bi, fd_C0, fd_C1, fd_C2, fd_C3, fd_C4, fd_C5, fd_C6, fd_M0, fd_M1, fd_M2, fd_M3, fd_M4, fd_M5, fd_M6, if_true, if_false], by simp [F_X7_as, F_X7_as_50, m, (hw u v).2, its_M0 h12, uM, bi, ite10, ite00, bdI_s, bdL_s, bdV_s, gz_0, gz_1, gz_bi, fd_C0, fd_C1, fd_C2, fd_C3, fd_C4, fd_C5, fd_C6, fd_M0, fd_M1, fd_M2, fd_M3, fd_M4, fd_M5, fd_M6, if_true, if_false], hR.fd 2 (by omega)⟩
  · rw [hb] at uC uM
    exact ⟨(vM v 1 2 p).2.2.1, u, v, by simp [F_X6_as, F_X6_as_59, c, (hw u v).1, gC, cl_nI h12, ek, ey, uC, bi, ite10, ite00, bdI_s, bdL_s, bdV_s, gz_0, gz_1, gz_bi, fd_C0, fd_C1, fd_C2, fd_C3, fd_C4, fd_C5, fd_C6, fd_M0, fd_M1, fd_M2, fd_M3, fd_M4, fd_M5, fd_M6, if_true, if_false], by simp [F_X7_as, F_X7_as_50, m, (hw u v).2, its_M0 h12, its_M2 h12, uM, bi, ite10, ite00, bdI_s, bdL_s, bdV_s, gz_0, gz_1, gz_bi, fd_C0, fd_C1, fd_C2, fd_C3, fd_C4, fd_C5, fd_C6, fd_M0, fd_M1, fd_M2, fd_M3, fd_M4, fd_M5, fd_M6, if_true, if_false], hR⟩
theorem ST8 : ST_8 Rel := by
  intro u v x1 hR
  obtain ⟨⟨n, hA⟩, -⟩ := id hR
  rcases sl_cases x1 with hw | ⟨s, s1, rfl, hw⟩
  · exact ⟨-1000000001, tC u 0, tM v 0, by simp [F_X6_slack, (hw u v).1, ite10, ite00, bdI_s, bdL_s, bdV_s, gz_0, gz_1, gz_bi, fd_C0, fd_C1, fd_C2, fd_C3, fd_C4, fd_C5, fd_C6, fd_M0, fd_M1, fd_M2, fd_M3, fd_M4, fd_M5, fd_M6, if_true, if_false], by simp [F_X7_slack, (hw u v).2, ite10, ite00, bdI_s, bdL_s, bdV_s, gz_0, gz_1, gz_bi, fd_C0, fd_C1, fd_C2, fd_C3, fd_C4, fd_C5, fd_C6, fd_M0, fd_M1, fd_M2, fd_M3, fd_M4, fd_M5, fd_M6, if_true, if_false], hR.fd 0 (by omega)⟩
  refine ⟨v.1 1 1, sI u 4 2 (nI s), sI v 1 1 (nI s), by simp [F_X6_slack, (hw u v).1, hA.sl, ite10, ite00, bdI_s, bdL_s, bdV_s, gz_0, gz_1, gz_bi, fd_C0, fd_C1, fd_C2, fd_C3, fd_C4, fd_C5, fd_C6, fd_M0, fd_M1, fd_M2, fd_M3, fd_M4, fd_M5, fd_M6, if_true, if_false], by simp [F_X7_slack, (hw u v).2, gd_c1, cl_1, ite10, ite00, bdI_s, bdL_s, bdV_s, gz_0, gz_1, gz_bi, fd_C0, fd_C1, fd_C2, fd_C3, fd_C4, fd_C5, fd_C6, fd_M0, fd_M1, fd_M2, fd_M3, fd_M4, fd_M5, fd_M6, if_true, if_false], ?_⟩
  obtain ⟨a, b, c, d, e, f⟩ := hA
  refine hR.upd (n := n) ⟨a, ?_, ?_, ?_, ⟨s, s1, sI_eq⟩, fun p hp => ?_⟩ (fun i h1 h2 => ⟨funext fun j => sI_i (by omega), rfl⟩) (fun i h => funext fun j => sI_i h) (fun i h => rfl)
  · rw [sI_k (by decide)]; exact b
  · rw [sI_k (by decide)]; exact c
  · rw [sI_eq, sI_eq]
  · have e1 : prC (sI u 4 2 (nI s)) (12 * 1 + 16 + p) = prC u (12 * 1 + 16 + p) := prC_ne (by omega)
    have e2 : vM (sI v 1 1 (nI s)) 1 2 p = vM v 1 2 p := by
      unfold vM
      rw [sI_k (by omega), sI_k (by omega), sI_k (by omega), sI_k (by omega), sI_2]
    rw [e1, e2]
    exact f p hp
theorem ST9 : ST_9 Rel := by
  intro u v x1 x2 hR
  obtain ⟨⟨n, hA⟩, -⟩ := id hR
  rcases two_cases hA x1 x2 with ⟨c, m⟩ | ⟨p, q, hp, hq, hne, rfl, rfl, c, m⟩
  · exact ⟨-1000000001, tC u 0, tM v 0, by simp only [F_X6_ahead, c, ite10, ite00, bdI_s, bdL_s, bdV_s, gz_0, gz_1, gz_bi, fd_C0, fd_C1, fd_C2, fd_C3, fd_C4, fd_C5, fd_C6, fd_M0, fd_M1, fd_M2, fd_M3, fd_M4, fd_M5, fd_M6, if_true, if_false], by simp only [F_X7_ahead, m, ite10, ite00, bdI_s, bdL_s, bdV_s, gz_0, gz_1, gz_bi, fd_C0, fd_C1, fd_C2, fd_C3, fd_C4, fd_C5, fd_C6, fd_M0, fd_M1, fd_M2, fd_M3, fd_M4, fd_M5, fd_M6, if_true, if_false], hR.fd 0 (by omega)⟩
  have cc := canC (u := u) (t := 1) (hA.lt hp) (hA.lt hq)
  have cm := canM (hA.lt hp) (hA.lt hq) (hA.ok hp) (hA.ok hq)
  rw [show 12 * 1 + 16 + p = 28 + p by omega, show 12 * 1 + 16 + q = 28 + q by omega, hA.at hp, hA.at hq, show u.1 (1 + 3) 2 = v.1 1 1 from hA.sl] at cc
  cases hb : canP (vM v 1 2 p) (vM v 1 2 q) (v.1 1 1)
  · rw [hb] at cc cm
    exact ⟨0, u, v, by simp [F_X6_ahead, F_X6_ahead_33, c, cc, bi, ite10, ite00, bdI_s, bdL_s, bdV_s, gz_0, gz_1, gz_bi, fd_C0, fd_C1, fd_C2, fd_C3, fd_C4, fd_C5, fd_C6, fd_M0, fd_M1, fd_M2, fd_M3, fd_M4, fd_M5, fd_M6, if_true, if_false], by simp [F_X7_ahead, F_X7_ahead_30, m, cm, bi, ite10, ite00, bdI_s, bdL_s, bdV_s, gz_0, gz_1, gz_bi, fd_C0, fd_C1, fd_C2, fd_C3, fd_C4, fd_C5, fd_C6, fd_M0, fd_M1, fd_M2, fd_M3, fd_M4, fd_M5, fd_M6, if_true, if_false], hR⟩
  · rw [hb] at cc cm
    exact ⟨1, u, v, by simp [F_X6_ahead, F_X6_ahead_33, c, cc, bi, ite10, ite00, bdI_s, bdL_s, bdV_s, gz_0, gz_1, gz_bi, fd_C0, fd_C1, fd_C2, fd_C3, fd_C4, fd_C5, fd_C6, fd_M0, fd_M1, fd_M2, fd_M3, fd_M4, fd_M5, fd_M6, if_true, if_false], by simp [F_X7_ahead, F_X7_ahead_30, m, cm, bi, ite10, ite00, bdI_s, bdL_s, bdV_s, gz_0, gz_1, gz_bi, fd_C0, fd_C1, fd_C2, fd_C3, fd_C4, fd_C5, fd_C6, fd_M0, fd_M1, fd_M2, fd_M3, fd_M4, fd_M5, fd_M6, if_true, if_false], hR⟩
