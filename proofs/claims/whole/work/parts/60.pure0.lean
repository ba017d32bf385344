/-! PURE: what the functions answer. Basics, one print, the relation. -/
def bi (b : Bool) : Int32 := if b then 1 else 0
theorem bi_t : bi true = 1 := rfl
theorem bi_f : bi false = 0 := rfl
theorem bi_0 {b : Bool} : bi b = 0 ↔ b = false := by cases b <;> decide
theorem bi_1 {b : Bool} : bi b = 1 ↔ b = true := by cases b <;> decide
theorem bdI_s {β : Type} (r : Int32) (u : Mem) (f : Int32 → Mem → Option β) : bdI (some (r, u)) f = f r u := rfl
theorem bdL_s {β : Type} (r : Int64) (u : Mem) (f : Int64 → Mem → Option β) : bdL (some (r, u)) f = f r u := rfl
theorem bdV_s {β : Type} (u : Mem) (f : Mem → Option β) : bdV (some u) f = f u := rfl
theorem gz_bi {β : Type} (b : Bool) (x : Option β) : gz (bi b) x = x := by cases b <;> rfl
theorem gz_0 {β : Type} (x : Option β) : gz 0 x = x := rfl
theorem gz_1 {β : Type} (x : Option β) : gz 1 x = x := rfl
theorem gd_nI {β : Type} {n N : Nat} (x : Option β) (h : n < N) (hN : N < 2 ^ 31) : gd (nI n) N x = x := by
  unfold gd
  rw [if_neg (nI_in h hN)]
theorem gd_in {β : Type} {i : Int32} {N : Nat} (x : Option β) (h : vp_in i N) : gd i N x = x := by
  unfold gd
  rw [if_neg h]
theorem gd_c0 {β : Type} (x : Option β) : gd 0 50 x = x := rfl
theorem gd_c1 {β : Type} (x : Option β) : gd 1 50 x = x := rfl
theorem cl_0 : (0 : Int32).toNatClampNeg = 0 := rfl
theorem cl_1 : (1 : Int32).toNatClampNeg = 1 := rfl
theorem cl_nI {n : Nat} (h : n < 12) : (nI n).toNatClampNeg = n := nI_clamp (by omega)
theorem ix_nI {p w : Nat} (hp : p < 12) (hw : w < 4) : (((2 : Int32) + ((4 : Int32) * nI p)) + nI w) = nI (2 + 4 * p + w) := by
  rw [show (2 : Int32) = nI 2 from rfl, show (4 : Int32) = nI 4 from rfl, pk_mul, nI_add, nI_add]
/-! one print: kind, width, year, seen, marks -/
abbrev PV : Type := Int32 × Int32 × Int32 × Int32 × Int64
def prC (u : Mem) (x : Nat) : PV := (u.1 x 0, u.1 x 1, u.1 x 2, u.1 x 3, u.2 x 4)
def vM (v : Mem) (ro mu p : Nat) : PV := (v.1 ro (2 + 4 * p), v.1 ro (3 + 4 * p), v.1 ro (4 + 4 * p), v.1 ro (5 + 4 * p), v.2 mu p)
def okP (x : PV) : Prop := (∃ k, k < 6 ∧ x.1 = nI k) ∧ (∃ w, 1 ≤ w ∧ w ≤ 9999 ∧ x.2.1 = nI w) ∧ (∃ y, y ≤ 2000 ∧ x.2.2.1 = nI y) ∧ (x.2.2.2.1 = 0 ∨ x.2.2.2.1 = 1) ∧ x.2.2.2.2 &&& 1099511627775 = x.2.2.2.2
def twP (x : PV) : Int32 := if x.1 = 1 then 100 * x.2.1 / 90 else if x.1 = 2 then 100 * x.2.1 / 97 else if x.1 = 3 then 100 * x.2.1 / 97 + 10 else if x.1 = 5 then 100 * (100 * x.2.1 / 90) / 80 else x.2.1
def hdP (x : PV) : Int64 := if x.1 = 1 then (if x.2.2.2.1 = 0 then 1098437885952 else 0) ||| 733007751850 else if x.1 = 5 then (if x.2.2.2.1 = 0 then 1098437885952 else 0) ||| 733007751850 ||| 1099510579200 else (if x.2.2.2.1 = 0 then 1098437885952 else 0)
def shP (x : PV) : Int64 := x.2.2.2.2 &&& (hdP x ^^^ -1)
def baP (x : PV) : Int64 := 1099511627775 &&& ((x.2.2.2.2 ||| hdP x) ^^^ -1)
theorem tw_C (x : Nat) (u : Mem) : F_X1_trueWidth x u = some (twP (prC u x), u) := by
  unfold F_X1_trueWidth F_X1_trueWidth_93 twP prC
  by_cases h1 : u.1 x 0 = 1
  · simp [h1]
  by_cases h2 : u.1 x 0 = 2
  · simp [h2]
  by_cases h3 : u.1 x 0 = 3
  · simp [h3]
  by_cases h5 : u.1 x 0 = 5
  · simp [h5]
  by_cases h4 : u.1 x 0 = 4
  · simp [h4]
  simp [h1, h2, h3, h4, h5]
theorem hd_C (x : Nat) (u : Mem) : F_X1_hidden x u = some (hdP (prC u x), u) := by
  unfold F_X1_hidden F_X1_hidden_14 hdP prC
  by_cases h0 : u.1 x 3 = 0
  · by_cases h1 : u.1 x 0 = 1
    · simp [h0, h1]
    by_cases h5 : u.1 x 0 = 5
    · simp [h0, h5]
    simp [h0, h1, h5]
  · by_cases h1 : u.1 x 0 = 1
    · simp [h0, h1]
    by_cases h5 : u.1 x 0 = 5
    · simp [h0, h5]
    simp [h0, h1, h5]
theorem sh_C (x : Nat) (u : Mem) : F_X1_shown x u = some (shP (prC u x), u) := by
  unfold F_X1_shown
  rw [hd_C, bdL_s]
  rfl
theorem ba_C (x : Nat) (u : Mem) : F_X1_bare x u = some (baP (prC u x), u) := by
  unfold F_X1_bare
  rw [hd_C, bdL_s]
  rfl
theorem its_M {v : Mem} {p w : Nat} (hp : p < 12) (hw : w < 4) : F_X7_its v (nI p) (nI w) = some (v.1 1 (2 + 4 * p + w), v) := by
  unfold F_X7_its
  rw [ix_nI hp hw, gd_nI _ (by omega) (by omega), nI_clamp (by omega)]
theorem its_M0 {v : Mem} {p : Nat} (hp : p < 12) : F_X7_its v (nI p) 0 = some ((vM v 1 2 p).1, v) := its_M (w := 0) hp (by omega)
theorem its_M1 {v : Mem} {p : Nat} (hp : p < 12) : F_X7_its v (nI p) 1 = some ((vM v 1 2 p).2.1, v) := by
  rw [show (1 : Int32) = nI 1 from rfl, its_M hp (by omega), show 2 + 4 * p + 1 = 3 + 4 * p by omega]; rfl
theorem its_M2 {v : Mem} {p : Nat} (hp : p < 12) : F_X7_its v (nI p) 2 = some ((vM v 1 2 p).2.2.1, v) := by
  rw [show (2 : Int32) = nI 2 from rfl, its_M hp (by omega), show 2 + 4 * p + 2 = 4 + 4 * p by omega]; rfl
theorem its_M3 {v : Mem} {p : Nat} (hp : p < 12) : F_X7_its v (nI p) 3 = some ((vM v 1 2 p).2.2.2.1, v) := by
  rw [show (3 : Int32) = nI 3 from rfl, its_M hp (by omega), show 2 + 4 * p + 3 = 5 + 4 * p by omega]; rfl
theorem sets_M {v : Mem} {p w : Nat} {x : Int32} (hp : p < 12) (hw : w < 4) : F_X7_sets v (nI p) (nI w) x = some (sI v 1 (2 + 4 * p + w) x) := by
  unfold F_X7_sets
  rw [ix_nI hp hw, gd_nI _ (by omega) (by omega), nI_clamp (by omega)]
theorem tw_M {v : Mem} {p : Nat} (hp : p < 12) : F_X7_trueWidth v (nI p) = some (twP (vM v 1 2 p), v) := by
  unfold F_X7_trueWidth F_X7_trueWidth_89 twP
  rw [its_M1 hp, bdI_s, its_M0 hp, bdI_s]
  by_cases h1 : (vM v 1 2 p).1 = 1
  · simp [h1]
  by_cases h2 : (vM v 1 2 p).1 = 2
  · simp [h2]
  by_cases h3 : (vM v 1 2 p).1 = 3
  · simp [h3]
  by_cases h5 : (vM v 1 2 p).1 = 5
  · simp [h5]
  by_cases h4 : (vM v 1 2 p).1 = 4
  · simp [h4]
  simp [h1, h2, h3, h4, h5]
theorem l_or0 (x : Int64) : x ||| 0 = x := Int64.or_zero
theorem hd_M {v : Mem} {p : Nat} (hp : p < 12) (ho : okP (vM v 1 2 p)) : F_X7_hides v (nI p) = some (hdP (vM v 1 2 p), v) := by
  unfold F_X7_hides F_X7_hides_17 F_X7_hides_39 F_X7_hides_46 F_X7_hides_60 hdP
  rw [its_M3 hp, bdI_s, its_M0 hp, bdI_s, bdI_s]
  rcases ho.2.2.2.1 with h0 | h0
  · rw [h0]
    by_cases h1 : (vM v 1 2 p).1 = 1
    · simp [h1]
    by_cases h5 : (vM v 1 2 p).1 = 5
    · simp [h5]
    simp [h1, h5]
  · rw [h0]
    by_cases h1 : (vM v 1 2 p).1 = 1
    · simp [h1]
    by_cases h5 : (vM v 1 2 p).1 = 5
    · simp [h5]
    simp [h1, h5]
theorem sh_M {v : Mem} {p : Nat} (hp : p < 12) (ho : okP (vM v 1 2 p)) : F_X7_shows v (nI p) = some (shP (vM v 1 2 p), v) := by
  unfold F_X7_shows
  rw [gd_nI _ hp (by omega), hd_M hp ho, bdL_s, cl_nI hp]
  rfl
/-! the relation of the two memories -/
def RAr (u v : Mem) (t ro mu n : Nat) : Prop := n ≤ 12 ∧ u.1 (t + 3) 1 = nI n ∧ v.1 ro 0 = nI n ∧ u.1 (t + 3) 2 = v.1 ro 1 ∧ (∃ s, s ≤ 999 ∧ v.1 ro 1 = nI s) ∧ ∀ p, p < n → prC u (12 * t + 16 + p) = vM v ro mu p ∧ okP (vM v ro mu p)
def RSh (u v : Mem) (s : Nat) : Prop := u.1 (s + 19) 1 = v.1 10 s ∧ (v.1 10 s = 0 ∨ v.1 10 s = 8 ∨ v.1 10 s = 16 ∨ v.1 10 s = 64) ∧ (∃ n, n ≤ 40 ∧ u.1 (s + 19) 2 = nI n ∧ v.1 11 s = nI n) ∧ ∀ k, k < 40 → u.2 (s + 23) k = v.2 12 (40 * s + k)
def RTp (u v : Mem) : Prop := ∃ k, k ≤ 120 ∧ u.1 15 1 = nI k ∧ v.1 0 9 = nI k ∧ ∀ j, j < k → u.1 16 j = v.1 9 j ∧ ∃ b, b < 256 ∧ v.1 9 j = nI b
def RKp (u v : Mem) : Prop := u.1 0 7 = v.1 0 24 ∧ (v.1 0 24 = 0 ∨ (v.1 0 24 = 1 ∧ ∃ n, RAr u v 2 14 16 n))
def Rel (u v : Mem) : Prop := (∃ n, RAr u v 1 1 2 n) ∧ RKp u v ∧ RTp u v ∧ (∀ s, s < 4 → RSh u v s) ∧ ∀ k, k < 7 → u.1 27 k = v.1 3 k
def okC (u u2 : Mem) : Prop := ∀ i, ¬ (6 ≤ i ∧ i ≤ 14) → i ≠ 17 → i < 52 → u2.1 i = u.1 i ∧ u2.2 i = u.2 i
def okM (v v2 : Mem) : Prop := (∀ i, (i = 1 ∨ i = 2 ∨ i = 3 ∨ i = 9 ∨ i = 10 ∨ i = 11 ∨ i = 12 ∨ i = 14 ∨ i = 16) → v2.1 i = v.1 i ∧ v2.2 i = v.2 i) ∧ v2.1 0 9 = v.1 0 9 ∧ v2.1 0 24 = v.1 0 24
theorem okC.rf (u : Mem) : okC u u := fun _ _ _ _ => ⟨rfl, rfl⟩
theorem okM.rf (v : Mem) : okM v v := ⟨fun _ _ => ⟨rfl, rfl⟩, rfl, rfl⟩
theorem okC.tr {u u2 u3 : Mem} (h : okC u u2) (g : okC u2 u3) : okC u u3 := fun i a b c => ⟨(g i a b c).1.trans (h i a b c).1, (g i a b c).2.trans (h i a b c).2⟩
theorem okM.tr {u u2 u3 : Mem} (h : okM u u2) (g : okM u2 u3) : okM u u3 := ⟨fun i a => ⟨(g.1 i a).1.trans (h.1 i a).1, (g.1 i a).2.trans (h.1 i a).2⟩, g.2.1.trans h.2.1, g.2.2.trans h.2.2⟩
theorem RAr.congr {u v u2 v2 : Mem} {t ro mu n : Nat} (h : RAr u v t ro mu n) (h1 : u2.1 (t + 3) 1 = u.1 (t + 3) 1) (h2 : u2.1 (t + 3) 2 = u.1 (t + 3) 2) (h3 : v2.1 ro = v.1 ro) (h4 : ∀ p, p < n → v2.2 mu p = v.2 mu p) (h5 : ∀ p, p < n → prC u2 (12 * t + 16 + p) = prC u (12 * t + 16 + p)) : RAr u2 v2 t ro mu n := by
  obtain ⟨a, b, c, d, e, f⟩ := h
  have hv : ∀ p, p < n → vM v2 ro mu p = vM v ro mu p := fun p hp => by unfold vM; rw [h3, h4 p hp]
  refine ⟨a, by rw [h1, b], by rw [h3, c], by rw [h2, h3, d], by rw [h3]; exact e, fun p hp => ?_⟩
  rw [h5 p hp, hv p hp]
  exact f p hp
theorem RSh.congr {u v u2 v2 : Mem} {s : Nat} (h : RSh u v s) (h1 : u2.1 (s + 19) = u.1 (s + 19)) (h2 : u2.2 (s + 23) = u.2 (s + 23)) (h3 : v2.1 10 s = v.1 10 s) (h4 : v2.1 11 s = v.1 11 s) (h5 : ∀ k, k < 40 → v2.2 12 (40 * s + k) = v.2 12 (40 * s + k)) : RSh u2 v2 s := by
  obtain ⟨a, b, ⟨n, c, d, e⟩, f⟩ := h
  exact ⟨by rw [h1, h3, a], by rw [h3]; exact b, ⟨n, c, by rw [h1, d], by rw [h4, e]⟩, fun k hk => by rw [h2, h5 k hk]; exact f k hk⟩
theorem prC_eq {u u2 : Mem} {x : Nat} (h : u2.1 x = u.1 x) (g : u2.2 x = u.2 x) : prC u2 x = prC u x := by unfold prC; rw [h, g]
theorem Rel.frame {u v u2 v2 : Mem} (hR : Rel u v) (hC : okC u u2) (hM : okM v v2) : Rel u2 v2 := by
  obtain ⟨⟨n, hA⟩, hK, ⟨k, t1, t2, t3, t4⟩, hS, hF⟩ := hR
  have c : ∀ i, ¬ (6 ≤ i ∧ i ≤ 14) → i ≠ 17 → i < 52 → u2.1 i = u.1 i ∧ u2.2 i = u.2 i := hC
  have e4 := (c 4 (by omega) (by omega) (by omega)).1
  have e5 := (c 5 (by omega) (by omega) (by omega)).1
  have e0 := (c 0 (by omega) (by omega) (by omega)).1
  have e15 := (c 15 (by omega) (by omega) (by omega)).1
  have e16 := (c 16 (by omega) (by omega) (by omega)).1
  have e27 := (c 27 (by omega) (by omega) (by omega)).1
  have m := hM.1
  refine ⟨⟨n, hA.congr (by rw [e4]) (by rw [e4]) (m 1 (by decide)).1 (fun p _ => by rw [(m 2 (by decide)).2]) (fun p hp => ?_)⟩, ⟨by rw [e0, hM.2.2]; exact hK.1, ?_⟩, ⟨k, t1, by rw [e15]; exact t2, by rw [hM.2.1]; exact t3, fun j hj => by rw [e16, (m 9 (by decide)).1]; exact t4 j hj⟩, fun s hs => ?_, fun k hk => by rw [e27, (m 3 (by decide)).1]; exact hF k hk⟩
  · have := hA.1
    obtain ⟨g1, g2⟩ := c (12 * 1 + 16 + p) (by omega) (by omega) (by omega)
    exact prC_eq g1 g2
  · rw [hM.2.2]
    rcases hK.2 with h | ⟨h, n2, h2⟩
    · exact Or.inl h
    · refine Or.inr ⟨h, n2, h2.congr (by rw [e5]) (by rw [e5]) (m 14 (by decide)).1 (fun p _ => by rw [(m 16 (by decide)).2]) (fun p hp => ?_)⟩
      have := h2.1
      obtain ⟨g1, g2⟩ := c (12 * 2 + 16 + p) (by omega) (by omega) (by omega)
      exact prC_eq g1 g2
  · exact (hS s hs).congr (c (s + 19) (by omega) (by omega) (by omega)).1 (c (s + 23) (by omega) (by omega) (by omega)).2 (by rw [(m 10 (by decide)).1]) (by rw [(m 11 (by decide)).1]) (fun k _ => by rw [(m 12 (by decide)).2])
theorem Rel.start : Rel u0C u0M := by
  refine ⟨⟨0, by omega, rfl, rfl, rfl, ⟨20, by omega, rfl⟩, fun p hp => absurd hp (by omega)⟩, ⟨rfl, Or.inl rfl⟩, ⟨0, by omega, rfl, rfl, fun j hj => absurd hj (by omega)⟩, fun s hs => ?_, fun k hk => rfl⟩
  refine ⟨?_, Or.inl ?_, ⟨0, by omega, ?_, ?_⟩, fun k hk => rfl⟩
  all_goals (rcases (show s = 0 ∨ s = 1 ∨ s = 2 ∨ s = 3 by omega) with rfl | rfl | rfl | rfl <;> rfl)
/-! findings -/
def tC (u : Mem) (k : Nat) : Mem := sI u 27 k (u.1 27 k + 1)
def tM (v : Mem) (k : Nat) : Mem := sI v 3 k (v.1 3 k + 1)
theorem Rel.fd {u v : Mem} (hR : Rel u v) (k : Nat) (hk : k < 7) : Rel (tC u k) (tM v k) := by
  obtain ⟨⟨n, hA⟩, hK, ⟨kk, t1, t2, t3, t4⟩, hS, hF⟩ := hR
  have c : ∀ i, i ≠ 27 → (tC u k).1 i = u.1 i := fun i hi => funext fun j => sI_i hi
  have m : ∀ i, i ≠ 3 → (tM v k).1 i = v.1 i := fun i hi => funext fun j => sI_i hi
  have c2 : (tC u k).2 = u.2 := rfl
  have m2 : (tM v k).2 = v.2 := rfl
  refine ⟨⟨n, hA.congr (by rw [c 4 (by omega)]) (by rw [c 4 (by omega)]) (m 1 (by omega)) (fun p _ => by rw [m2]) (fun p hp => prC_eq (c _ (by omega)) (by rw [c2]))⟩, ⟨by rw [c 0 (by omega), m 0 (by omega)]; exact hK.1, ?_⟩, ⟨kk, t1, by rw [c 15 (by omega)]; exact t2, by rw [m 0 (by omega)]; exact t3, fun j hj => by rw [c 16 (by omega), m 9 (by omega)]; exact t4 j hj⟩, fun s hs => (hS s hs).congr (c _ (by omega)) (by rw [c2]) (by rw [m 10 (by omega)]) (by rw [m 11 (by omega)]) (fun k _ => by rw [m2]), fun j hj => ?_⟩
  · rw [m 0 (by omega)]
    rcases hK.2 with h | ⟨h, n2, h2⟩
    · exact Or.inl h
    · exact Or.inr ⟨h, n2, h2.congr (by rw [c 5 (by omega)]) (by rw [c 5 (by omega)]) (m 14 (by omega)) (fun p _ => by rw [m2]) (fun p hp => prC_eq (c _ (by omega)) (by rw [c2]))⟩
  · unfold tC tM
    by_cases e : j = k
    · subst e; rw [sI_eq, sI_eq, hF j hj]
    · rw [sI_k e, sI_k e, hF j hj]
theorem fd_C0 (u : Mem) : F_X6_found u (-1000000001) = some (-1000000001, tC u 0) := rfl
theorem fd_C1 (u : Mem) : F_X6_found u (-1000000002) = some (-1000000002, tC u 1) := rfl
theorem fd_C2 (u : Mem) : F_X6_found u (-1000000003) = some (-1000000003, tC u 2) := rfl
theorem fd_C3 (u : Mem) : F_X6_found u (-1000000004) = some (-1000000004, tC u 3) := rfl
theorem fd_C4 (u : Mem) : F_X6_found u (-1000000005) = some (-1000000005, tC u 4) := rfl
theorem fd_C5 (u : Mem) : F_X6_found u (-1000000006) = some (-1000000006, tC u 5) := rfl
theorem fd_C6 (u : Mem) : F_X6_found u (-1000000007) = some (-1000000007, tC u 6) := rfl
theorem fd_M0 (u : Mem) : F_X7_finds u (-1000000001) = some (-1000000001, tM u 0) := rfl
theorem fd_M1 (u : Mem) : F_X7_finds u (-1000000002) = some (-1000000002, tM u 1) := rfl
theorem fd_M2 (u : Mem) : F_X7_finds u (-1000000003) = some (-1000000003, tM u 2) := rfl
theorem fd_M3 (u : Mem) : F_X7_finds u (-1000000004) = some (-1000000004, tM u 3) := rfl
theorem fd_M4 (u : Mem) : F_X7_finds u (-1000000005) = some (-1000000005, tM u 4) := rfl
theorem fd_M5 (u : Mem) : F_X7_finds u (-1000000006) = some (-1000000006, tM u 5) := rfl
theorem fd_M6 (u : Mem) : F_X7_finds u (-1000000007) = some (-1000000007, tM u 6) := rfl
