/-! PURE: numbers written on sheets -/
theorem nar8 (x : Int64) : x.toInt32.toInt8.toInt32.toInt64 = (x <<< ((56 : Int32).toInt64 &&& 63)) >>> ((56 : Int32).toInt64 &&& 63) := by
  refine b6_ext (fun i hi => ?_)
  have e1 : (x.toInt32.toInt8.toInt32.toInt64).toBitVec = (((x.toBitVec.signExtend 32).signExtend 8).signExtend 32).signExtend 64 := rfl
  have e2 : ((x <<< ((56 : Int32).toInt64 &&& 63)) >>> ((56 : Int32).toInt64 &&& 63)).toBitVec = (x.toBitVec <<< 56).sshiftRight 56 := rfl
  unfold b6
  rw [e1, e2, BitVec.getLsbD_sshiftRight]
  simp only [BitVec.getLsbD_signExtend, BitVec.getLsbD_shiftLeft, BitVec.msb_eq_getLsbD_last]
  by_cases h : i < 8
  · simp [h, hi, show i < 32 by omega, show ¬ 56 + i < 56 by omega, show 56 + i < 64 by omega, show ¬ 64 ≤ i by omega]
  · by_cases h2 : i < 32
    · simp [h, hi, h2, show ¬ 56 + i < 64 by omega, show ¬ 64 ≤ i by omega]
    · simp [h, hi, h2, show ¬ 56 + i < 64 by omega, show ¬ 64 ≤ i by omega]
theorem nar16 (x : Int64) : x.toInt32.toInt16.toInt32.toInt64 = (x <<< ((48 : Int32).toInt64 &&& 63)) >>> ((48 : Int32).toInt64 &&& 63) := by
  refine b6_ext (fun i hi => ?_)
  have e1 : (x.toInt32.toInt16.toInt32.toInt64).toBitVec = (((x.toBitVec.signExtend 32).signExtend 16).signExtend 32).signExtend 64 := rfl
  have e2 : ((x <<< ((48 : Int32).toInt64 &&& 63)) >>> ((48 : Int32).toInt64 &&& 63)).toBitVec = (x.toBitVec <<< 48).sshiftRight 48 := rfl
  unfold b6
  rw [e1, e2, BitVec.getLsbD_sshiftRight]
  simp only [BitVec.getLsbD_signExtend, BitVec.getLsbD_shiftLeft, BitVec.msb_eq_getLsbD_last]
  by_cases h : i < 16
  · simp [h, hi, show i < 32 by omega, show ¬ 48 + i < 48 by omega, show 48 + i < 64 by omega, show ¬ 64 ≤ i by omega]
  · by_cases h2 : i < 32
    · simp [h, hi, h2, show ¬ 48 + i < 64 by omega, show ¬ 64 ≤ i by omega]
    · simp [h, hi, h2, show ¬ 48 + i < 64 by omega, show ¬ 64 ≤ i by omega]
def narP (b : Int32) (x : Int64) : Int64 := if b = 8 then (x <<< ((56 : Int32).toInt64 &&& 63)) >>> ((56 : Int32).toInt64 &&& 63) else if b = 16 then (x <<< ((48 : Int32).toInt64 &&& 63)) >>> ((48 : Int32).toInt64 &&& 63) else x
theorem nar_M (v : Mem) (b : Int32) (x : Int64) : F_X7_narrow v b x = some (narP b x, v) := by
  unfold F_X7_narrow F_X7_narrow_33 narP
  by_cases h : b = 8
  · rw [if_pos h, if_pos h]
  · by_cases g : b = 16
    · rw [if_neg h, if_neg h, if_pos g, if_pos g]
    · rw [if_neg h, if_neg h, if_neg g, if_neg g]
theorem low_C (s : Nat) (u : Mem) (x : Int64) : F_X3_lowest s u x = some (narP (u.1 (s + 19) 1) x, u) := by
  unfold F_X3_lowest F_X3_lowest_31 narP
  by_cases h : u.1 (s + 19) 1 = 8
  · rw [if_pos h, if_pos h, nar8]
  · by_cases g : u.1 (s + 19) 1 = 16
    · rw [if_neg h, if_neg h, if_pos g, if_pos g, nar16]
    · rw [if_neg h, if_neg h, if_neg g, if_neg g]
theorem put_C {s n k : Nat} {u : Mem} {x : Int64} (h : u.1 (s + 19) 2 = nI n) (hn : n ≤ 40) (hk : k < n) : F_X3_put s u (nI k) x = some (sL u (s + 23) k (narP (u.1 (s + 19) 1) x)) := by
  unfold F_X3_put F_X3_put_23
  rw [if_neg (nI_pos (by omega)), h, if_neg (nI_ge hk (by omega)), low_C, bdL_s, gd_nI _ (show k < 40 by omega) (by omega), nI_clamp (by omega)]
theorem Rel.putS {u v : Mem} {s k : Nat} {y : Int64} (hR : Rel u v) (hs : s < 4) (hk : k < 40) : Rel (sL u (s + 23) k y) (sL v 12 (40 * s + k) y) := by
  have hS := hR.2.2.2.1 s hs
  refine hR.updS hs ⟨hS.1, hS.2.1, hS.2.2.1, fun j hj => ?_⟩ (fun i _ => rfl) (fun i hi => funext fun j => sL_i hi) (fun i _ _ => rfl) (fun j _ => ⟨rfl, rfl⟩) (fun i h1 _ => funext fun j => sL_i h1) (fun j hj => sL_k (by omega))
  by_cases e : j = k
  · subst e; rw [sL_eq, sL_eq]
  · rw [sL_k e, sL_k (by omega)]; exact hS.2.2.2 j hj
theorem mis_C {s : Nat} {u : Mem} : F_X3_isMissing s u = some (bi (decide (u.1 (s + 19) 1 = 0)), u) := by
  unfold F_X3_isMissing F_X3_isMissing_12
  by_cases h : u.1 (s + 19) 1 = 0
  · rw [if_pos h, decide_eq_true h]; rfl
  · rw [if_neg h, decide_eq_false h]; rfl
theorem mis_y {s : Nat} {u : Mem} (h : u.1 (s + 19) 1 = 0) : F_X3_isMissing s u = some (1, u) := by rw [mis_C, decide_eq_true h]; rfl
theorem mis_n {s : Nat} {u : Mem} (h : ¬ u.1 (s + 19) 1 = 0) : F_X3_isMissing s u = some (0, u) := by rw [mis_C, decide_eq_false h]; rfl
theorem inz_y {v : Mem} {n j : Nat} (hn : n ≤ 40) (hj : j < n) : F_X7_in v (nI j) 0 (nI n - 1) = some (1, v) := by
  rw [show nI n - 1 = nI (n - 1) from pk_sub (a := n) (b := 1) (by omega), in_y (nI_pos (by omega)) (nI_nlt (by omega) (by omega))]
theorem inz_n {v : Mem} {n : Nat} {x : Int32} (hn : n ≤ 40) (hx : x < 0 ∨ nI n ≤ x) : F_X7_in v x 0 (nI n - 1) = some (0, v) := by
  refine in_n ?_
  rcases hx with g | g
  · exact Or.inl g
  · refine Or.inr ?_
    rw [Int32.le_iff_toInt_le, nI_toInt (by omega)] at g
    rw [Int32.lt_iff_toInt_lt, show (1 : Int32) = nI 1 from rfl, pk_sub_toInt (by omega) (by omega)]
    omega
theorem ST33 : ST_33 Rel := by
  intro u v x1 x2 x3 hR
  rcases sh_cases x1 with hw | ⟨s, hs, rfl, hw⟩
  · exact ⟨(-1000000001 : Int32).toInt64, tC u 0, tM v 0, by unfold F_X6_write; rw [(hw u v).1]; rfl, by unfold F_X7_write; rw [(hw u v).2]; rfl, hR.fd 0 (by omega)⟩
  obtain ⟨b1, b2, ⟨z, hz, z1, z2⟩, b4⟩ := hR.2.2.2.1 s hs
  by_cases h0 : v.1 10 s = 0
  · refine ⟨(-1000000006 : Int32).toInt64, tC u 5, tM v 5, ?_, ?_, hR.fd 5 (by omega)⟩
    · unfold F_X6_write
      rw [(hw u v).1, bdI_s, ite10, gd_nI _ hs (by omega), cl_nI (by omega), mis_y (b1.trans h0), bdI_s, ite10]; rfl
    · unfold F_X7_write
      rw [(hw u v).2, bdI_s, ite10, gd_nI _ hs (by omega), cl_nI (by omega), if_pos h0]; rfl
  have h0c : ¬ u.1 (s + 19) 1 = 0 := fun e => h0 (b1.symm.trans e)
  by_cases hx : x2 < 0 ∨ nI z ≤ x2
  · refine ⟨(-1000000001 : Int32).toInt64, tC u 0, tM v 0, ?_, ?_, hR.fd 0 (by omega)⟩
    · unfold F_X6_write F_X6_write_52
      rw [(hw u v).1, bdI_s, ite10, gd_nI _ hs (by omega), cl_nI (by omega), mis_n h0c, bdI_s, ite00, z1]
      by_cases g : x2 < 0
      · rw [if_pos g]; rfl
      · rw [if_neg g, if_neg (fun q => absurd (Int32.lt_of_lt_of_le q (hx.resolve_left g)) Int32.lt_irrefl)]; rfl
    · unfold F_X7_write
      rw [(hw u v).2, bdI_s, ite10, gd_nI _ hs (by omega), cl_nI (by omega), if_neg h0, gd_nI _ hs (by omega), z2, inz_n hz hx, bdI_s, ite00]; rfl
  · obtain ⟨k, hk, rfl⟩ : ∃ k, k < z ∧ x2 = nI k := by
      rcases pk_ix x2 (n := z) (by omega) with g | g | g
      · exact absurd (Or.inl g) hx
      · exact absurd (Or.inr g) hx
      · exact g
    refine ⟨v.2 12 (40 * s + k), sL u (s + 23) k (narP (v.1 10 s) x3), sL v 12 (40 * s + k) (narP (v.1 10 s) x3), ?_, ?_, hR.putS hs (by omega)⟩
    · unfold F_X6_write
      rw [(hw u v).1, bdI_s, ite10, gd_nI _ hs (by omega), cl_nI (by omega), mis_n h0c, bdI_s, ite00, z1, if_neg (nI_pos (by omega)), if_pos (nI_lt hk (by omega)), gd_nI _ (show k < 40 by omega) (by omega), put_C z1 hz hk, bdV_s, nI_clamp (by omega), b1, b4 k (by omega)]
    · unfold F_X7_write
      rw [(hw u v).2, bdI_s, ite10, gd_nI _ hs (by omega), cl_nI (by omega), if_neg h0, gd_nI _ hs (by omega), z2, inz_y hz hk, bdI_s, ite10, ix40, gd_nI _ (show 40 * s + k < 160 by omega) (by omega), gd_nI _ hs (by omega), nar_M, bdL_s, gd_nI _ (show 40 * s + k < 160 by omega) (by omega), nI_clamp (by omega)]
/-! copy -/
theorem run_cases (n : Nat) (hn : n ≤ 40) (x y : Int32) : (∀ (s : Nat) (u v : Mem), s < 4 → u.1 (s + 19) 2 = nI n → v.1 11 s = nI n → F_X3_hasRun s u x y = some (0, u) ∧ F_X7_isPart v (nI s) x y = some (0, v)) ∨ ∃ f g, f + g ≤ n ∧ x = nI f ∧ y = nI g ∧ ∀ (s : Nat) (u v : Mem), s < 4 → u.1 (s + 19) 2 = nI n → v.1 11 s = nI n → F_X3_hasRun s u x y = some (1, u) ∧ F_X7_isPart v (nI s) x y = some (1, v) := by
  by_cases hx : x < 0
  · exact Or.inl (fun s u v hs h1 h2 => ⟨by unfold F_X3_hasRun; rw [if_pos hx]; rfl, by unfold F_X7_isPart; rw [if_pos hx]; rfl⟩)
  by_cases hy : y < 0
  · exact Or.inl (fun s u v hs h1 h2 => ⟨by unfold F_X3_hasRun; rw [if_neg hx, if_pos hy]; rfl, by unfold F_X7_isPart; rw [if_neg hx, if_pos hy]; rfl⟩)
  obtain ⟨f, hf, rfl⟩ := nI_of hx
  obtain ⟨g, hg, rfl⟩ := nI_of hy
  by_cases h : f + g ≤ n
  · refine Or.inr ⟨f, g, h, rfl, rfl, fun s u v hs h1 h2 => ⟨?_, ?_⟩⟩
    · unfold F_X3_hasRun F_X3_hasRun_31
      rw [if_neg hx, if_neg hy, h1, if_neg (nI_nlt (by omega) (by omega)), pk_sub (by omega), if_neg (nI_nlt (by omega) (by omega))]; rfl
    · unfold F_X7_isPart F_X7_isPart_35
      rw [if_neg hx, if_neg hy, gd_nI _ hs (by omega), cl_nI (by omega), h2, if_neg (nI_nlt (by omega) (by omega)), gd_nI _ hs (by omega), pk_sub (by omega), if_neg (nI_nlt (by omega) (by omega))]; rfl
  · refine Or.inl (fun s u v hs h1 h2 => ⟨?_, ?_⟩)
    · unfold F_X3_hasRun F_X3_hasRun_30 F_X3_hasRun_31
      rw [if_neg hx, if_neg hy, h1]
      by_cases g1 : n < f
      · rw [if_pos (nI_lt g1 hf)]; rfl
      · rw [if_neg (nI_nlt (by omega) (by omega)), pk_sub (by omega), if_pos (nI_lt (by omega) hg)]; rfl
    · unfold F_X7_isPart F_X7_isPart_34 F_X7_isPart_35
      rw [if_neg hx, if_neg hy, gd_nI _ hs (by omega), cl_nI (by omega), h2]
      by_cases g1 : n < g
      · rw [if_pos (nI_lt g1 hg)]; rfl
      · rw [if_neg (nI_nlt (by omega) (by omega)), gd_nI _ hs (by omega), pk_sub (by omega), if_pos (nI_lt (by omega) hf)]; rfl
theorem ix40b {s f i : Nat} : (40 : Int32) * nI s + nI f + nI i = nI (40 * s + f + i) := by rw [ix40, nI_add]
theorem cp_139 {s f g : Nat} (hs : s < 4) (hf : f + g ≤ 40) : ∀ (m k i : Nat) (v : Mem), i + k = g → k < m → ∃ v', F_X7_copy_139 m v (nI s) (nI f) (nI g) (nI i) = some (nI g, v') ∧ v'.1 = v.1 ∧ (∀ c, c ≠ 12 → v'.2 c = v.2 c) ∧ ∀ j, v'.2 12 j = if 40 * s + f + i ≤ j ∧ j < 40 * s + f + g then v.2 13 (j - (40 * s + f)) else v.2 12 j := by
  intro m
  induction m with
  | zero => intro k i v _ h; exact absurd h (by omega)
  | succ m ih =>
    intro k i v h1 hk
    unfold F_X7_copy_139
    cases k with
    | zero => exact ⟨v, by rw [if_pos (nI_le (by omega) (by omega))], rfl, fun _ _ => rfl, fun j => by rw [if_neg (show ¬ (40 * s + f + i ≤ j ∧ j < 40 * s + f + g) by omega)]⟩
    | succ k =>
      rw [if_neg (nI_ge (by omega) (by omega)), gd_nI _ (show i < 40 by omega) (by omega), ix40b, gd_nI _ (show 40 * s + f + i < 160 by omega) (by omega), bdV_s, nI_clamp (show 40 * s + f + i < 2 ^ 31 by omega), nI_clamp (show i < 2 ^ 31 by omega), nI_1]
      obtain ⟨v', e1, e2, e3, e4⟩ := ih k (i + 1) (sL v 12 (40 * s + f + i) (v.2 13 i)) (by omega) (by omega)
      refine ⟨v', e1, e2, fun c hc => by rw [e3 c hc]; exact funext fun j => sL_i hc, fun j => ?_⟩
      rw [e4 j, sL_i (show (13 : Nat) ≠ 12 by decide)]
      by_cases hj : j = 40 * s + f + i
      · subst hj; rw [if_neg (show ¬ (40 * s + f + (i + 1) ≤ 40 * s + f + i ∧ 40 * s + f + i < 40 * s + f + g) by omega), if_pos (show 40 * s + f + i ≤ 40 * s + f + i ∧ 40 * s + f + i < 40 * s + f + g by omega), sL_eq, show 40 * s + f + i - (40 * s + f) = i by omega]
      · by_cases h : 40 * s + f + i ≤ j ∧ j < 40 * s + f + g
        · rw [if_pos (show 40 * s + f + (i + 1) ≤ j ∧ j < 40 * s + f + g by omega), if_pos h]
        · rw [if_neg (show ¬ (40 * s + f + (i + 1) ≤ j ∧ j < 40 * s + f + g) by omega), if_neg h, sL_k hj]
theorem cp_102 {s f s2 f2 g : Nat} (hs : s < 4) (hf : f + g ≤ 40) (hs2 : s2 < 4) (hf2 : f2 + g ≤ 40) : ∀ (m k i : Nat) (v : Mem), i + k = g → k < m → ∃ v', F_X7_copy_102 m v (nI s) (nI f) (nI s2) (nI f2) (nI g) (nI i) = F_X7_copy_139 fu v' (nI s2) (nI f2) (nI g) 0 ∧ v'.1 = v.1 ∧ (∀ c, c ≠ 13 → v'.2 c = v.2 c) ∧ ∀ j, v'.2 13 j = if i ≤ j ∧ j < g then v.2 12 (40 * s + f + j) else v.2 13 j := by
  intro m
  induction m with
  | zero => intro k i v _ h; exact absurd h (by omega)
  | succ m ih =>
    intro k i v h1 hk
    unfold F_X7_copy_102
    cases k with
    | zero => exact ⟨v, by rw [if_pos (nI_le (by omega) (by omega))], rfl, fun _ _ => rfl, fun j => by rw [if_neg (show ¬ (i ≤ j ∧ j < g) by omega)]⟩
    | succ k =>
      rw [if_neg (nI_ge (by omega) (by omega)), ix40b, gd_nI _ (show 40 * s + f + i < 160 by omega) (by omega), gd_nI _ (show i < 40 by omega) (by omega), bdV_s, nI_clamp (show 40 * s + f + i < 2 ^ 31 by omega), nI_clamp (show i < 2 ^ 31 by omega), nI_1]
      obtain ⟨v', e1, e2, e3, e4⟩ := ih k (i + 1) (sL v 13 i (v.2 12 (40 * s + f + i))) (by omega) (by omega)
      refine ⟨v', e1, e2, fun c hc => by rw [e3 c hc]; exact funext fun j => sL_i hc, fun j => ?_⟩
      rw [e4 j, sL_i (show (12 : Nat) ≠ 13 by decide)]
      by_cases hj : j = i
      · subst hj; rw [if_neg (show ¬ (j + 1 ≤ j ∧ j < g) by omega), if_pos (show j ≤ j ∧ j < g by omega), sL_eq]
      · by_cases h : i ≤ j ∧ j < g
        · rw [if_pos (show i + 1 ≤ j ∧ j < g by omega), if_pos h]
        · rw [if_neg (show ¬ (i + 1 ≤ j ∧ j < g) by omega), if_neg h, sL_k hj]
theorem gc_nI {β : Type} {f f2 g : Nat} (h : f + g ≤ 40) (h2 : f2 + g ≤ 40) (x : Option β) : gc (nI f) (nI f2) (nI g) x = x := by
  unfold gc
  rw [if_neg]
  rintro (a | a | a | a | a)
  · exact nI_pos (by omega) a
  · exact nI_pos (by omega) a
  · exact nI_pos (by omega) a
  · rw [nI_clamp (by omega), nI_clamp (by omega)] at a; omega
  · rw [nI_clamp (by omega), nI_clamp (by omega)] at a; omega
theorem ST34 : ST_34 Rel := by
  intro u v x1 x2 x3 x4 x5 hR
  rcases sh_cases x1 with hw | ⟨s, hs, rfl, hw⟩
  · exact ⟨-1000000001, tC u 0, tM v 0, by unfold F_X6_copy F_X6_copy_14; rw [(hw u v).1]; rfl, by unfold F_X7_copy F_X7_copy_14; rw [(hw u v).2]; rfl, hR.fd 0 (by omega)⟩
  rcases sh_cases x3 with hw2 | ⟨s2, hs2, rfl, hw2⟩
  · exact ⟨-1000000001, tC u 0, tM v 0, by unfold F_X6_copy F_X6_copy_14; rw [(hw u v).1, bdI_s, ite10, (hw2 u v).1]; rfl, by unfold F_X7_copy F_X7_copy_14; rw [(hw u v).2, bdI_s, ite10, (hw2 u v).2]; rfl, hR.fd 0 (by omega)⟩
  obtain ⟨a1, a2, ⟨z, hz, z1, z2⟩, a4⟩ := hR.2.2.2.1 s hs
  obtain ⟨b1, b2, ⟨y, hy, y1, y2⟩, b4⟩ := hR.2.2.2.1 s2 hs2
  have kC : F_X6_copy u (nI s) x2 (nI s2) x4 x5 = bdI (F_X3_isMissing s u) (fun r21 u20 => if r21 = 0 then bdI (F_X3_isMissing s2 u20) (fun r25 u24 => if r25 = 0 then (if u24.1 (s + 19) 1 = u24.1 (s2 + 19) 1 then bdI (F_X3_hasRun s u24 x2 x5) (fun r30 u29 => if r30 = 0 then F_X6_copy_103 u29 else bdI (F_X3_hasRun s2 u29 x4 x5) (fun r34 u33 => if r34 = 0 then F_X6_copy_103 u33 else gc x2 x4 x5 (some (x5, cpL u33 (s + 23) (s2 + 23) x2 x4 x5)))) else bdI (F_X6_found u24 (-1000000003)) fun r39 u38 => some (r39, u38)) else F_X6_copy_53 u24) else F_X6_copy_53 u20) := by
    unfold F_X6_copy
    rw [(hw u v).1, bdI_s, ite10, (hw2 u v).1, bdI_s, ite10, gd_nI _ hs (by omega), gd_nI _ hs2 (by omega), cl_nI (by omega), cl_nI (by omega)]
  have kM : F_X7_copy v (nI s) x2 (nI s2) x4 x5 = if v.1 10 s = 0 then F_X7_copy_39 v else if v.1 10 s2 = 0 then F_X7_copy_39 v else if v.1 10 s = v.1 10 s2 then bdI (F_X7_isPart v (nI s) x2 x5) (fun r36 u35 => if r36 = 0 then F_X7_copy_92 u35 else bdI (F_X7_isPart u35 (nI s2) x4 x5) (fun r40 u39 => if r40 = 0 then F_X7_copy_92 u39 else F_X7_copy_102 fu u39 (nI s) x2 (nI s2) x4 x5 0)) else bdI (F_X7_finds v (-1000000003)) fun r44 u43 => some (r44, u43) := by
    unfold F_X7_copy
    rw [(hw u v).2, bdI_s, ite10, (hw2 u v).2, bdI_s, ite10, gd_nI _ hs (by omega), gd_nI _ hs2 (by omega), gd_nI _ hs (by omega), gd_nI _ hs2 (by omega), cl_nI (by omega), cl_nI (by omega)]
  rw [kC, kM]
  by_cases h0 : v.1 10 s = 0
  · rw [mis_y (a1.trans h0), bdI_s, ite10, if_pos h0]
    exact ⟨-1000000006, tC u 5, tM v 5, rfl, rfl, hR.fd 5 (by omega)⟩
  rw [mis_n (fun e => h0 (a1.symm.trans e)), bdI_s, ite00, if_neg h0]
  by_cases h1 : v.1 10 s2 = 0
  · rw [mis_y (b1.trans h1), bdI_s, ite10, if_pos h1]
    exact ⟨-1000000006, tC u 5, tM v 5, rfl, rfl, hR.fd 5 (by omega)⟩
  rw [mis_n (fun e => h1 (b1.symm.trans e)), bdI_s, ite00, if_neg h1, a1, b1]
  by_cases h2 : v.1 10 s = v.1 10 s2
  · rw [if_pos h2, if_pos h2]
    rcases run_cases z hz x2 x5 with r1 | ⟨f, g, hfg, rfl, rfl, r1⟩
    · rw [(r1 s u v hs z1 z2).1, (r1 s u v hs z1 z2).2]
      exact ⟨-1000000001, tC u 0, tM v 0, rfl, rfl, hR.fd 0 (by omega)⟩
    rw [(r1 s u v hs z1 z2).1, (r1 s u v hs z1 z2).2, bdI_s, bdI_s, ite10, ite10]
    rcases run_cases y hy x4 (nI g) with r2 | ⟨f2, g2, hfg2, rfl, eg, r2⟩
    · rw [(r2 s2 u v hs2 y1 y2).1, (r2 s2 u v hs2 y1 y2).2]
      exact ⟨-1000000001, tC u 0, tM v 0, rfl, rfl, hR.fd 0 (by omega)⟩
    rw [(r2 s2 u v hs2 y1 y2).1, (r2 s2 u v hs2 y1 y2).2, bdI_s, bdI_s, ite10, ite10]
    have hg2 : g = g2 := (nI_eq (by omega) (by omega)).mp eg
    subst hg2
    rw [gc_nI (by omega) (by omega)]
    obtain ⟨w, c1, c2, c3, c4⟩ := cp_102 (f := f) (f2 := f2) (g := g) hs (by omega) hs2 (by omega) fu g 0 v (by omega) (by unfold fu; omega)
    obtain ⟨w2, d1, d2, d3, d4⟩ := cp_139 (f := f2) (g := g) hs2 (by omega) fu g 0 w (by omega) (by unfold fu; omega)
    have zz : nI 0 = (0 : Int32) := rfl
    rw [zz] at c1 d1
    refine ⟨nI g, _, w2, rfl, c1.trans d1, hR.updS hs2 ⟨?_, ?_, ⟨y, hy, y1, ?_⟩, fun k hk => ?_⟩ (fun i _ => rfl) (fun i hi => funext fun j => if_neg hi) (fun i _ _ => ?_) (fun j _ => ⟨?_, ?_⟩) (fun i q1 q2 => ?_) (fun k hk => ?_)⟩
    · rw [d2, c2]; exact b1
    · rw [d2, c2]; exact b2
    · rw [d2, c2]; exact y2
    · show (if s2 + 23 = s2 + 23 then va_cpy (u.2 (s + 23)) (u.2 (s2 + 23)) (nI f).toNatClampNeg (nI f2).toNatClampNeg (nI g).toNatClampNeg k else u.2 (s2 + 23) k) = _
      rw [if_pos rfl, nI_clamp (by omega), nI_clamp (by omega), nI_clamp (by omega), d4]
      by_cases q : f2 ≤ k ∧ k < f2 + g
      · rw [pk_cpy_in q.1 q.2, if_pos (by omega), c4, if_pos (by omega), a4 _ (by omega)]
        exact congrArg (v.2 12) (by omega)
      · rw [pk_cpy_out (by omega), if_neg (by omega), c3 12 (by decide), b4 k hk]
    · rw [d2, c2]
    · rw [d2, c2]
    · rw [d2, c2]
    · rw [d3 i q1, c3 i q2]
    · rw [d4 k, if_neg (by omega), c3 12 (by decide)]
  · rw [if_neg h2, if_neg h2]
    exact ⟨-1000000003, tC u 2, tM v 2, rfl, rfl, hR.fd 2 (by omega)⟩
/-! dates -/
theorem yr_of {x : Int64} (h1 : ¬ lg_cmp x 0 < 0) (h2 : ¬ 0 < lg_cmp x 2000) : ∃ j, j ≤ 2000 ∧ x = lN j := by
  have g1 : 0 ≤ x.toInt := by
    unfold lg_cmp at h1
    by_cases a : x > 0
    · have a := Int64.lt_iff_toInt_lt.mp a
      rw [show (0 : Int64).toInt = 0 from rfl] at a
      omega
    · by_cases b : x = 0
      · rw [b]; decide
      · rw [if_neg a, if_neg b] at h1; exact absurd (by decide) h1
  have g2 : x.toInt ≤ 2000 := by
    unfold lg_cmp at h2
    by_cases a : x > 2000
    · rw [if_pos a] at h2; exact absurd (by decide) h2
    · have a : ¬ (2000 : Int64).toInt < x.toInt := fun z => a (Int64.lt_iff_toInt_lt.mpr z)
      rw [show (2000 : Int64).toInt = 2000 from rfl] at a
      omega
  refine ⟨x.toInt.toNat, by omega, Int64.toInt_inj.mp ?_⟩
  rw [lN_toInt (by omega)]
  omega
theorem dates_L {s : Nat} (hs : s < 4) : ∀ (m i : Nat) (c : Int32) (u v : Mem), Rel u v → i ≤ 12 → 12 - i < m → ∃ r u' v', F_X6_dates_40 m u s c (nI i) = some (r, u') ∧ F_X7_dates_35 m v (nI s) c (nI i) = some (r, v') ∧ Rel u' v' := by
  intro m
  induction m with
  | zero => intro i c u v _ _ h; exact absurd h (by omega)
  | succ m ih =>
    intro i c u v hR hi hm
    obtain ⟨n, hA⟩ := hR.1
    obtain ⟨hn, hs1, hs2, -⟩ := id hA
    have hs1 : u.1 4 1 = nI n := hs1
    obtain ⟨a1, a2, ⟨z, hz, z1, z2⟩, a4⟩ := hR.2.2.2.1 s hs
    unfold F_X6_dates_40 F_X7_dates_35 F_X6_dates_111 F_X7_dates_102
    rw [gd_c0, cl_0, gd_nI _ hs (by omega), cl_nI (show s < 12 by omega), z1, z2, hs1, hs2]
    by_cases h1 : z ≤ i
    · rw [if_pos (nI_le h1 (by omega)), if_pos (nI_le h1 (by omega)), ite_self]
      exact ⟨c, u, v, rfl, rfl, hR⟩
    rw [if_neg (nI_ge (show i < z by omega) (by omega)), if_neg (nI_ge (show i < z by omega) (by omega))]
    by_cases h2 : n ≤ i
    · rw [if_pos (nI_le h2 (by omega)), if_pos (nI_le h2 (by omega))]
      exact ⟨c, u, v, rfl, rfl, hR⟩
    have h12 : i < 12 := by omega
    rw [if_neg (nI_ge (show i < n by omega) (by omega)), if_neg (nI_ge (show i < n by omega) (by omega)), gd_nI _ (show i < 40 by omega) (by omega), ix40, gd_nI _ (show 40 * s + i < 160 by omega) (by omega), cl_nI h12, nI_clamp (show 40 * s + i < 2 ^ 31 by omega), a4 i (by omega)]
    unfold F_X6_dates_105 F_X7_dates_96
    rw [nI_1]
    by_cases h3 : lg_cmp (v.2 12 (40 * s + i)) 0 < 0
    · rw [if_pos h3, if_pos h3]
      exact ih (i + 1) c u v hR (by omega) (by omega)
    rw [if_neg h3, if_neg h3]
    by_cases h4 : 0 < lg_cmp (v.2 12 (40 * s + i)) 2000
    · rw [if_pos h4, if_pos h4]
      exact ih (i + 1) c u v hR (by omega) (by omega)
    rw [if_neg h4, if_neg h4, gd_nI _ h12 (by omega), bdV_s]
    obtain ⟨j, hj, ej⟩ := yr_of h3 h4
    rw [ej, lN_i, show (2 : Int32) = nI 2 from rfl, sets_M h12 (by omega), bdV_s]
    have hp : i < n := by omega
    have ho := hA.ok hp
    exact ih (i + 1) (c + 1) _ _ (hR.seti (w := 2) hA hp (by omega) (by rw [prC_2, vM_2, hA.at hp]) (by rw [vM_2]; exact ⟨ho.1, ho.2.1, ⟨j, hj, rfl⟩, ho.2.2.2⟩)) (by omega) (by omega)
theorem ST35 : ST_35 Rel := by
  intro u v x1 hR
  rcases sh_cases x1 with hw | ⟨s, hs, rfl, hw⟩
  · exact ⟨-1000000001, tC u 0, tM v 0, by unfold F_X6_dates; rw [(hw u v).1]; rfl, by unfold F_X7_dates; rw [(hw u v).2]; rfl, hR.fd 0 (by omega)⟩
  obtain ⟨b1, b2, ⟨z, hz, z1, z2⟩, b4⟩ := hR.2.2.2.1 s hs
  unfold F_X6_dates F_X7_dates
  rw [(hw u v).1, (hw u v).2, bdI_s, bdI_s, ite10, ite10, gd_nI _ hs (by omega), gd_nI _ hs (by omega), cl_nI (show s < 12 by omega)]
  by_cases h0 : v.1 10 s = 0
  · rw [mis_y (b1.trans h0), bdI_s, ite10, if_pos h0]
    exact ⟨-1000000006, tC u 5, tM v 5, rfl, rfl, hR.fd 5 (by omega)⟩
  rw [mis_n (fun e => h0 (b1.symm.trans e)), bdI_s, ite00, if_neg h0]
  exact dates_L hs fu 0 0 u v hR (by omega) (by unfold fu; omega)
/-! show -/
theorem show_L {s n z : Nat} (hs : s < 4) : ∀ (m i : Nat) (u v : Mem), Rel u v → v.1 1 0 = nI n → v.1 11 s = nI z → n ≤ 12 → z ≤ 40 → i ≤ min n z → min n z - i < m → ∃ u' v', F_X6_show_53 m u s (nI (min n z)) (nI i) = some (nI (min n z), u') ∧ F_X7_show_33 m v (nI s) (nI i) = some (nI (min n z), v') ∧ Rel u' v' := by
  intro m
  induction m with
  | zero => intro i u v _ _ _ _ _ _ h; exact absurd h (by omega)
  | succ m ih =>
    intro i u v hR e1 e2 hn hz hi hm
    obtain ⟨n', hA⟩ := hR.1
    have hnn : n' = n := by
      have a := hA.1
      exact (nI_eq (by omega) (by omega)).mp (hA.2.2.1.symm.trans e1)
    subst hnn
    obtain ⟨a1, a2, ⟨z', hz', z1, z2⟩, a4⟩ := hR.2.2.2.1 s hs
    have hzz : z' = z := (nI_eq (by omega) (by omega)).mp (z2.symm.trans e2)
    subst hzz
    unfold F_X6_show_53 F_X7_show_33 F_X7_show_84
    rw [gd_c0, cl_0, gd_nI _ hs (by omega), gd_nI _ hs (by omega), cl_nI (show s < 12 by omega), e1, e2]
    by_cases h : min n' z' ≤ i
    · rw [if_pos (nI_le h (by omega))]
      refine ⟨u, v, rfl, ?_, hR⟩
      have hi2 : i = min n' z' := by omega
      by_cases g : n' ≤ i
      · rw [if_pos (nI_le g (by omega)), hi2]
      · rw [if_neg (nI_ge (show i < n' by omega) (by omega)), if_pos (nI_le (show z' ≤ i by omega) (by omega)), hi2]
    have h1 : i < n' := by omega
    have h2 : i < z' := by omega
    have h12 : i < 12 := by omega
    rw [if_neg (nI_ge (show i < min n' z' by omega) (by omega)), if_neg (nI_ge h1 (by omega)), if_neg (nI_ge h2 (by omega)), gd_nI _ h12 (by omega), cl_nI h12, sh_C, bdL_s, hA.at h1, put_C z1 hz h2, bdV_s, sh_M h12 (hA.ok h1), bdL_s, nar_M, bdL_s, ix40, gd_nI _ (show 40 * s + i < 160 by omega) (by omega), nI_clamp (show 40 * s + i < 2 ^ 31 by omega), nI_1, a1]
    exact ih (i + 1) _ _ (hR.putS hs (by omega)) e1 e2 hn hz (by omega) (by omega)
theorem ST36 : ST_36 Rel := by
  intro u v x1 hR
  rcases sh_cases x1 with hw | ⟨s, hs, rfl, hw⟩
  · exact ⟨-1000000001, tC u 0, tM v 0, by unfold F_X6_show; rw [(hw u v).1]; rfl, by unfold F_X7_show; rw [(hw u v).2]; rfl, hR.fd 0 (by omega)⟩
  obtain ⟨b1, b2, ⟨z, hz, z1, z2⟩, b4⟩ := hR.2.2.2.1 s hs
  obtain ⟨n, hA⟩ := hR.1
  obtain ⟨hn, hs1, hs2, -⟩ := id hA
  have hs1 : u.1 4 1 = nI n := hs1
  unfold F_X6_show F_X7_show
  rw [(hw u v).1, (hw u v).2, bdI_s, bdI_s, ite10, ite10, gd_nI _ hs (by omega), gd_nI _ hs (by omega), cl_nI (show s < 12 by omega)]
  by_cases h0 : v.1 10 s = 0
  · rw [mis_y (b1.trans h0), bdI_s, ite10, if_pos h0]
    exact ⟨-1000000006, tC u 5, tM v 5, rfl, rfl, hR.fd 5 (by omega)⟩
  rw [mis_n (fun e => h0 (b1.symm.trans e)), bdI_s, ite00, if_neg h0]
  have hm : (if u.1 4 1 < u.1 (s + 19) 2 then u.1 4 1 else u.1 (s + 19) 2) = nI (min n z) := by
    rw [hs1, z1]
    by_cases h : n < z
    · rw [if_pos (nI_lt h (by omega)), show min n z = n by omega]
    · rw [if_neg (nI_nlt (by omega) (by omega)), show min n z = z by omega]
  rw [hm]
  obtain ⟨u', v', c1, c2, c3⟩ := show_L (n := n) (z := z) hs fu 0 u v hR hs2 z2 hn hz (by omega) (by unfold fu; omega)
  exact ⟨nI (min n z), u', v', c1, c2, c3⟩
