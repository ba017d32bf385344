/-! PURE: the words of a text -/
def hsW : List Int64 := [10334396, 247547, 8864309, 1489745, 60311, 94424593, 9667127, 189443911, 12403754, 495765, 377771]
def hs (i : Nat) : Int64 := hsW.getD i 0
def byN : List (List Nat) := [[115, 108, 97, 99, 107], [108, 111, 111, 107], [112, 114, 105, 110, 116], [98, 117, 114, 110, 116], [99, 97, 115, 116], [102, 111, 114, 103, 101, 100], [114, 101, 99, 117, 116], [109, 101, 108, 116, 101, 100], [119, 105, 100, 116, 104], [121, 101, 97, 114], [115, 101, 101, 110]]
def wb (i j : Nat) : Nat := (byN.getD i []).getD j 0
def wl (i : Nat) : Nat := len11.getD i 0
theorem w_hs : ∀ i, i < 11 → hs i = lN (hsh (wb i) 0 (wl i)) := by decide +kernel
theorem w_len : ∀ i, i < 11 → 4 ≤ wl i ∧ wl i ≤ 6 := by decide +kernel
theorem w_let : ∀ i, i < 11 → ∀ j, j < 6 → j < wl i → 97 ≤ wb i j ∧ wb i j ≤ 122 := by decide +kernel
theorem w_byt : ∀ i, i < 11 → ∀ j, j < 6 → j < wl i → (byt11.getD i []).getD j 0 &&& 255 = nI (wb i j) := by decide +kernel
theorem w_m1 : ∀ i, i < 11 → ¬ (-1 : Int64) = hs i := by decide +kernel
theorem w_inj : ∀ i, i < 11 → ∀ j, j < 11 → hs i = hs j → i = j := by decide +kernel
theorem lgc_eq (x y : Int64) : lg_cmp x y = 0 ↔ x = y := by
  unfold lg_cmp
  by_cases h1 : x > y
  · rw [if_pos h1]
    refine ⟨fun h => absurd h (by decide), fun h => ?_⟩
    rw [h] at h1
    have := Int64.lt_iff_toInt_lt.mp h1
    omega
  · rw [if_neg h1]
    by_cases h2 : x = y
    · rw [if_pos h2]; exact ⟨fun _ => h2, fun _ => rfl⟩
    · rw [if_neg h2]; exact ⟨fun h => absurd h (by decide), fun h => absurd h h2⟩
theorem isw_M (v : Mem) (x : Int64) : F_X7_isWord v x = some (bi (decide (v.1 0 10 = 1 ∧ v.2 0 13 = x)), v) := by
  unfold F_X7_isWord F_X7_isWord_21 F_X7_isWord_22
  by_cases h1 : v.1 0 10 = 1
  · rw [if_pos h1]
    by_cases h2 : v.2 0 13 = x
    · rw [if_pos ((lgc_eq _ _).mpr h2), decide_eq_true ⟨h1, h2⟩]; rfl
    · rw [if_neg (fun z => h2 ((lgc_eq _ _).mp z)), decide_eq_false (fun z => h2 z.2)]; rfl
  · rw [if_neg h1, decide_eq_false (fun z => h1 z.1)]; rfl
section
variable {t : Nat → Nat} {k : Nat} {u v : Mem}
theorem isw_28 {i b : Nat} (hT : TP t k u v) (hi : i < 11) (hb : u.1 17 4 = nI b) (hk : b + wl i ≤ k) : ∀ m r j, j + r = wl i → r < m → ∃ z, F_X5_isWord_28 m u i (nI j) = some (bi z, u) ∧ (z = true ↔ ∀ q, j ≤ q → q < wl i → t (b + q) = wb i q) := by
  have hl := w_len i hi
  have h120 := hT.1
  intro m
  induction m with
  | zero => intro r j _ h; exact absurd h (by omega)
  | succ m ih =>
    intro r j h1 hr
    unfold F_X5_isWord_28
    rw [show len11.getD i 0 = wl i from rfl]
    cases r with
    | zero =>
      rw [if_pos (nI_le (by omega) (by omega))]
      exact ⟨true, rfl, fun _ q a b => absurd b (by omega), fun _ => rfl⟩
    | succ r =>
      have hba : ba t k (b + j) = nI (t (b + j)) := if_pos (by omega)
      have h256 := (hT.2.2.2 (b + j) (by omega)).2.2
      have hwl := w_let i hi j (by omega) (by omega)
      rw [if_neg (nI_ge (by omega) (by omega)), hb, nI_add, at_C hT (by omega), bdI_s, gd_nI _ (show j < wl i by omega) (by omega), nI_clamp (show j < 2 ^ 31 by omega), w_byt i hi j (by omega) (by omega), hba, nI_1]
      by_cases e : t (b + j) = wb i j
      · rw [if_pos (congrArg nI e)]
        obtain ⟨z, z1, z2⟩ := ih r (j + 1) (by omega) (by omega)
        refine ⟨z, z1, z2.trans ⟨fun h q a c => ?_, fun h q a c => h q (by omega) c⟩⟩
        by_cases y : q = j
        · rw [y]; exact e
        · exact h q (by omega) c
      · rw [if_neg (fun z => e ((nI_eq (by omega) (by omega)).mp z))]
        exact ⟨false, rfl, fun h => absurd h (by decide), fun h => absurd (h j (Nat.le_refl j) (by omega)) e⟩
theorem isw_C {i b e : Nat} (hT : TP t k u v) (hK : TK t k b e u v) (hi : i < 11) : F_X5_isWord u i = some (bi (decide (v.1 0 10 = 1 ∧ v.2 0 13 = hs i)), u) := by
  obtain ⟨h1, h2, h3, h4, h5, h6, h7⟩ := hK
  have h120 := hT.1
  have hl := w_len i hi
  unfold F_X5_isWord F_X5_isWord_24
  have non : ∀ x : Int32, u.1 17 3 = x → x ≠ 1 → ¬ v.1 0 10 = 1 → (if u.1 17 3 = 1 then (if u.1 17 5 - u.1 17 4 = nI (len11.getD i 0) then F_X5_isWord_28 fu u i 0 else some (0, u)) else some (0, u)) = some (bi (decide (v.1 0 10 = 1 ∧ v.2 0 13 = hs i)), u) := fun x a b c => by
    rw [a, if_neg b, decide_eq_false (fun z => c z.1)]; rfl
  rcases h7 with ⟨a, s1⟩ | ⟨a, s1, c, d, f⟩ | ⟨a, s1, c⟩ | ⟨a, s1, c⟩ | ⟨a, s1, c⟩
  · exact non 0 a (by decide) (by rw [s1]; decide)
  · rw [a, if_pos rfl, h5, h3, pk_sub h1, show len11.getD i 0 = wl i from rfl]
    have key : (e - b = wl i ∧ ∀ q, 0 ≤ q → q < wl i → t (b + q) = wb i q) ↔ v.2 0 13 = hs i := by
      rw [f, w_hs i hi]
      unfold wh
      constructor
      · rintro ⟨g1, g2⟩
        rw [g1, if_pos (by omega), hsh_eq (t2 := wb i) (b2 := 0) (wl i) (fun j hj => by rw [Nat.zero_add]; exact g2 j (by omega) hj)]
      · intro g
        have b2 : hsh (wb i) 0 (wl i) < 27 ^ wl i := hsh_lt (wl i) (fun j hj => by rw [Nat.zero_add]; exact (w_let i hi j (by omega) hj).2)
        have p2 : 27 ^ wl i ≤ 27 ^ 12 := Nat.pow_le_pow_right (by decide) (by omega)
        have p3 : 27 ^ 12 < 2 ^ 63 := by decide
        by_cases e12 : e - b ≤ 12
        · rw [if_pos e12] at g
          have b1 : hsh t b (e - b) < 27 ^ (e - b) := hsh_lt (e - b) (fun j hj => (d j hj).2)
          have p1 : 27 ^ (e - b) ≤ 27 ^ 12 := Nat.pow_le_pow_right (by decide) e12
          have g := (pk_lEQ (by omega) (by omega)).mp g
          obtain ⟨c1, c2⟩ := hsh_inj (e - b) (wl i) d (fun j hj => by rw [Nat.zero_add]; exact w_let i hi j (by omega) hj) g
          refine ⟨c1, fun q _ hq => ?_⟩
          have := c2 q (by omega)
          rw [Nat.zero_add] at this
          exact this
        · rw [if_neg e12, ← w_hs i hi] at g
          exact absurd g (w_m1 i hi)
    by_cases el : e - b = wl i
    · rw [if_pos (by rw [el])]
      obtain ⟨z, z1, z2⟩ := isw_28 hT hi h3 (by omega) fu (wl i) 0 (by omega) (by unfold fu; omega)
      rw [show F_X5_isWord_28 fu u i 0 = some (bi z, u) from z1]
      have : z = decide (v.1 0 10 = 1 ∧ v.2 0 13 = hs i) := bool_iff (by
        rw [z2, decide_eq_true_eq]
        exact ⟨fun h => ⟨s1, key.mp ⟨el, h⟩⟩, fun h => (key.mpr h.2).2⟩)
      rw [this]
    · rw [if_neg (fun z => el ((nI_eq (by omega) (by omega)).mp z)), decide_eq_false (fun z => el (key.mpr z.2).1)]; rfl
  · exact non 2 a (by decide) (by rw [s1]; decide)
  · exact non 3 a (by decide) (by rw [s1]; decide)
  · exact non 4 a (by decide) (by rw [s1]; decide)
/-- a token, and where it ends -/
def TS (t : Nat → Nat) (k e : Nat) (u v : Mem) : Prop := TP t k u v ∧ ∃ b, TK t k b e u v
theorem TS.le {e : Nat} (h : TS t k e u v) : e ≤ k ∧ k ≤ 120 := by
  obtain ⟨hT, b, hK⟩ := h
  exact ⟨hK.2.1, hT.1⟩
theorem TS.fr {e : Nat} {u2 v2 : Mem} (h : TS t k e u v) (h15 : u2.1 15 = u.1 15) (h16 : u2.1 16 = u.1 16) (h17 : u2.1 17 = u.1 17) (h9 : v2.1 9 = v.1 9) (h0 : ∀ j, j ≠ 15 → v2.1 0 j = v.1 0 j) (hl : v2.2 0 = v.2 0) : TS t k e u2 v2 := by
  obtain ⟨hT, b, hK⟩ := h
  refine ⟨hT.fr h15 h16 h9 (h0 9 (by decide)), b, ?_⟩
  unfold TK at hK ⊢
  rw [h17, h0 10 (by decide), h0 11 (by decide), h0 12 (by decide), h0 14 (by decide), hl]
  exact hK
theorem word_both {e : Nat} (h : TS t k e u v) : ∃ w, w ≤ 11 ∧ (w < 11 → u.1 17 3 = 1) ∧ ∀ i, i < 11 → F_X5_isWord u i = some (bi (decide (w = i)), u) ∧ F_X7_isWord v (hs i) = some (bi (decide (w = i)), v) := by
  obtain ⟨hT, b, hK⟩ := h
  have tok : v.1 0 10 = 1 → u.1 17 3 = 1 := fun z => by
    rcases hK.2.2.2.2.2.2 with ⟨_, c⟩ | ⟨c, _⟩ | ⟨_, c, _⟩ | ⟨_, c, _⟩ | ⟨_, c, _⟩
    · rw [c] at z; exact absurd z (by decide)
    · exact c
    · rw [c] at z; exact absurd z (by decide)
    · rw [c] at z; exact absurd z (by decide)
    · rw [c] at z; exact absurd z (by decide)
  by_cases hex : ∃ w, w < 11 ∧ v.1 0 10 = 1 ∧ v.2 0 13 = hs w
  · obtain ⟨w, w1, w2, w3⟩ := hex
    refine ⟨w, by omega, fun _ => tok w2, fun i hi => ?_⟩
    have : decide (v.1 0 10 = 1 ∧ v.2 0 13 = hs i) = decide (w = i) := decide_eq_decide.mpr ⟨fun z => w_inj w w1 i hi (w3.symm.trans z.2), fun z => ⟨w2, by rw [← z]; exact w3⟩⟩
    rw [isw_C hT hK hi, isw_M, this]
    exact ⟨rfl, rfl⟩
  · refine ⟨11, by omega, fun z => absurd z (by omega), fun i hi => ?_⟩
    have : decide (v.1 0 10 = 1 ∧ v.2 0 13 = hs i) = decide (11 = i) := decide_eq_decide.mpr ⟨fun z => absurd ⟨i, hi, z⟩ hex, fun z => absurd z (by omega)⟩
    rw [isw_C hT hK hi, isw_M, this]
    exact ⟨rfl, rfl⟩
theorem step_TS {e : Nat} (h : TS t k e u v) : ∃ e' u' v', F_X5_step u = some u' ∧ F_X7_advance v = some v' ∧ WS u u' ∧ WA v v' ∧ e ≤ e' ∧ TS t k e' u' v' ∧ (u'.1 17 3 ≠ 0 → e < e') := by
  obtain ⟨hT, b, hK⟩ := h
  obtain ⟨b', e', u', v', a1, a2, a3, a4, a5, a6, a7⟩ := step_both hT hK.2.1 hK.2.2.2.2.1 hK.2.2.2.2.2.1
  refine ⟨e', u', v', a1, a2, a3, a4, ?_, ⟨a6, b', a7⟩, fun hz => ?_⟩
  · have := a7.1; omega
  · rcases a7.2.2.2.2.2.2 with ⟨c, _⟩ | ⟨_, _, c, _⟩ | ⟨_, _, c, _⟩ | ⟨_, _, c, _⟩ | ⟨_, _, c, _⟩
    · exact absurd c hz
    · omega
    · omega
    · omega
    · omega
theorem sI_id {w : Mem} {i j : Nat} {x : Int32} (h : w.1 i j = x) : sI w i j x = w := by
  unfold sI
  refine Prod.ext ?_ rfl
  funext a b
  show (if a = i ∧ b = j then x else w.1 a b) = w.1 a b
  by_cases z : a = i ∧ b = j
  · rw [if_pos z, z.1, z.2, h]
  · rw [if_neg z]
theorem num_both {e : Nat} (lo hi : Int32) (h : TS t k e u v) (hg : v.1 0 15 = 1) : (∃ w, w ≤ 10000 ∧ ¬ nI w < lo ∧ ¬ hi < nI w ∧ u.1 17 3 = 2 ∧ v.1 0 10 = 2 ∧ u.1 17 6 = nI w ∧ v.1 0 14 = nI w ∧ F_X5_isNumber u lo hi = some (1, u) ∧ F_X7_wantNumber v lo hi = bdV (F_X7_advance v) fun u3 => some (nI w, u3)) ∨ (F_X5_isNumber u lo hi = some (0, u) ∧ ∃ r, F_X7_wantNumber v lo hi = some (r, sI v 0 15 0)) := by
  obtain ⟨hT, b, hK⟩ := h
  have bad : ¬ u.1 17 3 = 2 → ¬ v.1 0 10 = 2 → F_X5_isNumber u lo hi = some (0, u) ∧ ∃ r, F_X7_wantNumber v lo hi = some (r, sI v 0 15 0) := fun a b => by
    unfold F_X5_isNumber F_X5_isNumber_28 F_X5_isNumber_29 F_X7_wantNumber F_X7_wantNumber_34 F_X7_wantNumber_35 F_X7_wantNumber_49
    rw [if_neg a, hg, ite10, if_neg b, sI_eq, ite00]
    exact ⟨rfl, _, rfl⟩
  rcases hK.2.2.2.2.2.2 with ⟨a, c⟩ | ⟨a, c, _⟩ | ⟨a, c, _, w, w1, w2, w3⟩ | ⟨a, c, _⟩ | ⟨a, c, _⟩
  · exact Or.inr (bad (by rw [a]; decide) (by rw [c]; decide))
  · exact Or.inr (bad (by rw [a]; decide) (by rw [c]; decide))
  · unfold F_X5_isNumber F_X5_isNumber_28 F_X5_isNumber_29 F_X7_wantNumber F_X7_wantNumber_34 F_X7_wantNumber_35 F_X7_wantNumber_49
    rw [if_pos a, hg, ite10, if_pos c, w2, w3]
    by_cases h1 : nI w < lo
    · rw [if_pos h1, in_n (Or.inl h1), bdI_s, ite00, gz_0, gz_0, sI_eq, ite00]
      exact Or.inr ⟨rfl, _, rfl⟩
    · by_cases h2 : hi < nI w
      · rw [if_neg h1, if_pos h2, in_n (Or.inr h2), bdI_s, ite00, gz_0, gz_0, sI_eq, ite00]
        exact Or.inr ⟨rfl, _, rfl⟩
      · rw [if_neg h1, if_neg h2, in_y h1 h2, bdI_s, ite10, gz_1, gz_1, sI_eq, ite10, sI_id hg]
        exact Or.inl ⟨w, w1, h1, h2, a, c, rfl, rfl, rfl, rfl⟩
  · exact Or.inr (bad (by rw [a]; decide) (by rw [c]; decide))
  · exact Or.inr (bad (by rw [a]; decide) (by rw [c]; decide))
theorem mw_both {e i : Nat} (lo hi ot : Int32) (h : TS t k e u v) (hg : v.1 0 15 = 1) (hi11 : i < 11) : (F_X5_isWord u i = some (0, u) ∧ F_X7_mayWant v (hs i) lo hi ot = some (ot, v)) ∨ (F_X5_isWord u i = some (1, u) ∧ ∃ e1 u1 v1, F_X5_step u = some u1 ∧ WS u u1 ∧ WA v v1 ∧ e ≤ e1 ∧ TS t k e1 u1 v1 ∧ v1.1 0 15 = 1 ∧ ((∃ w, w ≤ 10000 ∧ ¬ nI w < lo ∧ ¬ hi < nI w ∧ u1.1 17 6 = nI w ∧ F_X5_isNumber u1 lo hi = some (1, u1) ∧ F_X7_mayWant v (hs i) lo hi ot = bdV (F_X7_advance v1) fun u3 => some (nI w, u3)) ∨ (F_X5_isNumber u1 lo hi = some (0, u1) ∧ ∃ r, F_X7_mayWant v (hs i) lo hi ot = some (r, sI v1 0 15 0)))) := by
  obtain ⟨w, hw, -, hww⟩ := word_both h
  obtain ⟨c1, c2⟩ := hww i hi11
  unfold F_X7_mayWant F_X7_mayWant_15
  rw [hg, ite10, c1, c2, bdI_s]
  by_cases e : w = i
  · rw [decide_eq_true e, if_neg (show ¬ bi true = 0 by decide)]
    obtain ⟨e1, u1, v1, a1, a2, a3, a4, a5, a6, -⟩ := step_TS h
    have hg1 : v1.1 0 15 = 1 := by rw [a4.2.2 15 (by decide) (by decide) (by decide) (by decide)]; exact hg
    refine Or.inr ⟨rfl, e1, u1, v1, a1, a3, a4, a5, a6, hg1, ?_⟩
    rw [a2, bdV_s]
    rcases num_both lo hi a6 hg1 with ⟨x, x1, x2, x3, x4, x5, x6, x7, x8, x9⟩ | ⟨x1, r, x2⟩
    · refine Or.inl ⟨x, x1, x2, x3, x6, x8, ?_⟩
      rw [x9]
      cases F_X7_advance v1 <;> rfl
    · refine Or.inr ⟨x1, r, ?_⟩
      rw [x2, bdI_s]
  · rw [decide_eq_false e, if_pos (show bi false = 0 from rfl)]
    exact Or.inl ⟨rfl, rfl⟩
end
