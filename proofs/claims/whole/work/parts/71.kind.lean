/-! PURE: pairs, the likeliest kind -/
theorem ct_congr {f g : Nat → Bool} : ∀ k, (∀ i, i < k → f i = g i) → ct f k = ct g k := by
  intro k
  induction k with
  | zero => intro _; rfl
  | succ k ih => intro h; rw [ct_s, ct_s, h k (by omega), ih (fun i hi => h i (by omega))]
theorem ct_ext {f : Nat → Bool} {n : Nat} : ∀ k, n ≤ k → (∀ b, n ≤ b → b < k → f b = false) → ct f k = ct f n := by
  intro k
  induction k with
  | zero => intro h _; rw [show n = 0 by omega]
  | succ k ih =>
    intro h hf
    by_cases e : n = k + 1
    · rw [e]
    · rw [ct_s, hf k (by omega) (by omega), ih (by omega) (fun b h1 h2 => hf b h1 (by omega)), if_neg (show ¬ false = true by decide)]; rfl
theorem ct_front (f : Nat → Bool) : ∀ k, ct f (k + 1) = (if f 0 then 1 else 0) + ct (fun i => f (i + 1)) k := by
  intro k
  induction k with
  | zero => rw [ct_s]; exact Nat.add_comm _ _
  | succ k ih => rw [ct_s, ih, ct_s]; omega
theorem pcF_ct : ∀ k x, pcF k x = ct (fun q => x.testBit q) k := by
  intro k
  induction k with
  | zero => intro x; rfl
  | succ k ih =>
    intro x
    rw [pcF_s, ct_front, ih (x / 2), Nat.testBit_zero]
    congr 1
    · by_cases h : x % 2 = 1
      · rw [decide_eq_true h, if_pos rfl, h]
      · rw [decide_eq_false h, if_neg (show ¬ false = true by decide)]; omega
    · exact ct_congr k (fun i _ => (Nat.testBit_succ x i).symm)
theorem pc_ct {x : Nat} (hx : x < 4096) : pcF 32 x = ct (fun q => x.testBit q) 12 := by
  rw [pcF_ct]
  exact ct_ext 32 (by omega) (fun b hb _ => tb_out (k := 12) hx hb)
section
variable {n : Nat} {X : Nat → PV} {sl : Int32}
theorem row_pc {u : Mem} {p : Nat} {f : Nat → Bool} (h : Row u 9 p f) (hn : n ≤ 12) (hf : ∀ b, n ≤ b → b < 12 → f b = false) : F_J6_bitCount_0f7a4 u (u.1 9 p) = some (nI (ct f n), u) := by
  obtain ⟨x, hx, ex, ht⟩ := h
  rw [ex, bj_C u hx, pc_ct hx, ct_congr 12 ht, ct_ext 12 hn hf]
theorem wh_8 {v : Mem} {p : Nat} (hX : MX v n X sl) (hC : CAN v n X sl) (hp : p < n) : ∀ m k i, i + k = n → k < m → F_X7_withHow_8 m v (nI p) (nI (ct (EF n (onW X sl) p) i)) (nI i) = some (nI (ct (EF n (onW X sl) p) n), v) := by
  intro m
  induction m with
  | zero => intro k i _ h; exact absurd h (by omega)
  | succ m ih =>
    intro k i h1 hk
    have hn := hX.1
    unfold F_X7_withHow_8 F_X7_withHow_37 F_X7_withHow_38
    rw [gd_c0, cl_0, hX.2.1]
    cases k with
    | zero =>
      have e : i = n := by omega
      subst e
      rw [if_pos (nI_le (Nat.le_refl i) (by omega))]
    | succ k =>
      have h := ih k (i + 1) (by omega) (by omega)
      rw [ct_s] at h
      rw [if_neg (nI_ge (by omega) (by omega)), nI_1, Int32.add_zero, nI_1]
      by_cases e : i = p
      · rw [if_pos (congrArg nI e)]
        rw [show EF n (onW X sl) p i = false by unfold EF; rw [decide_eq_false (fun z => z.1 e.symm)]; rfl] at h
        exact h
      · rw [if_neg (fun z => e ((nI_eq (by omega) (by omega)).mp z)), one_M hX hC hp (show i < n by omega) (fun z => e z.symm), bdI_s]
        rw [show EF n (onW X sl) p i = onW X sl p i by unfold EF; rw [decide_eq_true ⟨fun z => e z.symm, hp, by omega⟩]; rfl] at h
        cases ho : onW X sl p i
        · rw [ho] at h; rw [if_pos (show bi false = 0 from rfl)]; exact h
        · rw [ho] at h; rw [if_neg (show ¬ bi true = 0 by decide)]; exact h
theorem withHow_M {v : Mem} {p : Nat} (hX : MX v n X sl) (hp : p < n) : ∃ v', F_X7_withHow v (nI p) = some (nI (ct (EF n (onW X sl) p) n), v') ∧ W45 v v' := by
  have hn := hX.1
  obtain ⟨v1, e1, w1, c1, -⟩ := findCan_M hX
  refine ⟨v1, ?_, w1⟩
  unfold F_X7_withHow
  rw [e1, bdV_s]
  exact wh_8 (w1.mx hX) c1 hp fu n 0 (by omega) (by unfold fu; omega)
theorem EF_out {on : Nat → Nat → Bool} {p b : Nat} (h : n ≤ b) : EF n on p b = false := by unfold EF; rw [decide_eq_false (by omega)]; rfl
theorem pa_C {u : Mem} {on : Nat → Nat → Bool} {f : Nat → Nat → Bool} (hn : n ≤ 12) (h4 : u.1 4 1 = nI n) (hL : LM u f (EF n on)) : ∀ m k i c, i + k = n → k < m → F_X2_howManyPairs_4 m u c (nI i) = some (sm (fun p => nI (ct (EF n on p) n)) k i c / 2, u) := by
  intro m
  induction m with
  | zero => intro k i c _ h; exact absurd h (by omega)
  | succ m ih =>
    intro k i c h1 hk
    unfold F_X2_howManyPairs_4
    rw [h4]
    cases k with
    | zero => rw [if_pos (nI_le (by omega) (by omega))]; rfl
    | succ k =>
      have hi : i < 12 := by omega
      rw [if_neg (nI_ge (by omega) (by omega)), gd_nI _ hi (by omega), cl_nI hi, row_pc (hL i hi).2 hn (fun b hb _ => EF_out hb), bdI_s, nI_1, ih k (i + 1) _ (by omega) (by omega), sm_s]
theorem pa_M : ∀ m k i c (v : Mem), i + k = n → k < m → MX v n X sl → ∃ v', F_X7_pairs_4 m v c (nI i) = some (sm (fun p => nI (ct (EF n (onW X sl) p) n)) k i c / 2, v') ∧ W45 v v' := by
  intro m
  induction m with
  | zero => intro k i c v _ h; exact absurd h (by omega)
  | succ m ih =>
    intro k i c v h1 hk hX
    have hn := hX.1
    unfold F_X7_pairs_4
    rw [gd_c0, cl_0, hX.2.1]
    cases k with
    | zero => rw [if_pos (nI_le (by omega) (by omega))]; exact ⟨v, rfl, W45.rf v⟩
    | succ k =>
      rw [if_neg (nI_ge (by omega) (by omega))]
      obtain ⟨v1, e1, w1⟩ := withHow_M hX (show i < n by omega)
      rw [e1, bdI_s, nI_1]
      obtain ⟨v2, e2, w2⟩ := ih k (i + 1) (c + nI (ct (EF n (onW X sl) i) n)) v1 (by omega) (by omega) (w1.mx hX)
      exact ⟨v2, e2, w1.tr w2⟩
end
theorem ST28 : ST_28 Rel := by
  intro u v hR
  obtain ⟨n, hA⟩ := hR.1
  obtain ⟨hX, hY⟩ := hA.X
  have hn := hX.1
  obtain ⟨u1, e1, w1, l1⟩ := weigh_C hX
  obtain ⟨v1, f1, w2⟩ := pa_M fu n 0 0 v (by omega) (by unfold fu; omega) hY
  have z : nI 0 = (0 : Int32) := rfl
  have a := pa_C hn (w1.X hX).2.1 l1 fu n 0 0 (by omega) (by unfold fu; omega)
  rw [z] at f1 a
  refine ⟨_, u1, v1, ?_, f1, hR.frame w1.ok w2.ok⟩
  unfold F_X6_pairs F_X2_howManyPairs
  rw [e1, bdV_s, a, bdI_s]
/-! one print weighed anew -/
def Wn (p j : Nat) (c f : Nat → Nat → Bool) (a b : Nat) : Bool := if a ≠ b ∧ ((a = p ∧ b < j) ∨ (b = p ∧ a < j)) then c a b else f a b
section
variable {n : Nat} {X : Nat → PV} {sl : Int32}
theorem w1_2 {p : Nat} (hp : p < n) {f g : Nat → Nat → Bool} : ∀ (m k j : Nat) (u : Mem), j + k = n → k < m → CX u n X sl → LM u (Wn p j (cnW X sl) f) (Wn p j (onW X sl) g) → ∃ u', F_X2_weighOne_2 m u (nI p) (nI j) = some u' ∧ W89 u u' ∧ LM u' (Wn p n (cnW X sl) f) (Wn p n (onW X sl) g) := by
  intro m
  induction m with
  | zero => intro k j u _ h; exact absurd h (by omega)
  | succ m ih =>
    intro k j u h1 hk hX hL
    have hn := hX.1
    unfold F_X2_weighOne_2 F_X2_weighOne_24
    rw [hX.2.1]
    cases k with
    | zero =>
      have e : j = n := by omega
      subst e
      exact ⟨u, by rw [if_pos (nI_le (Nat.le_refl j) (by omega))], W89.rf u, hL⟩
    | succ k =>
      rw [if_neg (nI_ge (by omega) (by omega)), nI_1]
      by_cases e : j = p
      · rw [if_pos (congrArg nI e)]
        refine ih k (j + 1) u (by omega) (by omega) hX (hL.congr (fun a b _ _ => ?_) (fun a b _ _ => ?_))
        · unfold Wn
          by_cases h : a ≠ b ∧ ((a = p ∧ b < j) ∨ (b = p ∧ a < j))
          · rw [if_pos h, if_pos (by omega)]
          · rw [if_neg h, if_neg (by omega)]
        · unfold Wn
          by_cases h : a ≠ b ∧ ((a = p ∧ b < j) ∨ (b = p ∧ a < j))
          · rw [if_pos h, if_pos (by omega)]
          · rw [if_neg h, if_neg (by omega)]
      · rw [if_neg (fun z => e ((nI_eq (by omega) (by omega)).mp z))]
        obtain ⟨u1, e1, w1, l1⟩ := wp_C hX hL hp (show j < n by omega)
        rw [e1, bdV_s]
        obtain ⟨u2, e2, w2, l2⟩ := ih k (j + 1) u1 (by omega) (by omega) (w1.X hX) (l1.congr (fun a b _ _ => by
          unfold updF Wn
          by_cases q1 : a = j ∧ b = p
          · rw [if_pos q1, if_pos (by omega), q1.1, q1.2]
          · rw [if_neg q1]
            by_cases q2 : a = p ∧ b = j
            · rw [if_pos q2, if_pos (by omega), q2.1, q2.2]
            · rw [if_neg q2]
              by_cases h : a ≠ b ∧ ((a = p ∧ b < j) ∨ (b = p ∧ a < j))
              · rw [if_pos h, if_pos (by omega)]
              · rw [if_neg h, if_neg (by omega)]) (fun a b _ _ => by
          unfold updF Wn
          by_cases q1 : a = j ∧ b = p
          · rw [if_pos q1, if_pos (by omega), q1.1, q1.2, onW_sym (fun z => e z.symm)]
          · rw [if_neg q1]
            by_cases q2 : a = p ∧ b = j
            · rw [if_pos q2, if_pos (by omega), q2.1, q2.2]
            · rw [if_neg q2]
              by_cases h : a ≠ b ∧ ((a = p ∧ b < j) ∨ (b = p ∧ a < j))
              · rw [if_pos h, if_pos (by omega)]
              · rw [if_neg h, if_neg (by omega)]))
        exact ⟨u2, e2, w1.tr w2, l2⟩
theorem weighOne_C {u : Mem} {p : Nat} {f g : Nat → Nat → Bool} (hX : CX u n X sl) (hL : LM u f g) (hp : p < n) : ∃ u', F_X2_weighOne u (nI p) = some u' ∧ W89 u u' ∧ LM u' (Wn p n (cnW X sl) f) (Wn p n (onW X sl) g) := by
  have hn := hX.1
  exact w1_2 hp fu n 0 u (by omega) (by unfold fu; omega) hX (hL.congr (fun a b _ _ => by unfold Wn; rw [if_neg (by omega)]) (fun a b _ _ => by unfold Wn; rw [if_neg (by omega)]))
/-! one print changed for a while -/
def KC (w p : Nat) (u0 u : Mem) : Prop := u.2 = u0.2 ∧ (∀ c, c ≠ 8 → c ≠ 9 → c ≠ 28 + p → u.1 c = u0.1 c) ∧ ∀ j, j ≠ w → u.1 (28 + p) j = u0.1 (28 + p) j
def KM (w p : Nat) (v0 v : Mem) : Prop := v.2 = v0.2 ∧ (∀ c, c ≠ 1 → c ≠ 4 → c ≠ 5 → c ≠ 6 → c ≠ 7 → v.1 c = v0.1 c) ∧ ∀ j, j ≠ 2 + 4 * p + w → v.1 1 j = v0.1 1 j
theorem KC.rf (w p : Nat) (u : Mem) : KC w p u u := ⟨rfl, fun _ _ _ _ => rfl, fun _ _ => rfl⟩
theorem KM.rf (w p : Nat) (v : Mem) : KM w p v v := ⟨rfl, fun _ _ _ _ _ _ => rfl, fun _ _ => rfl⟩
theorem KC.set {w p : Nat} {u0 u : Mem} {y : Int32} (h : KC w p u0 u) : KC w p u0 (sI u (28 + p) w y) := ⟨h.1, fun c a b d => (funext fun j => sI_i d).trans (h.2.1 c a b d), fun j hj => by rw [sI_k hj]; exact h.2.2 j hj⟩
theorem KM.set {w p : Nat} {u0 u : Mem} {y : Int32} (h : KM w p u0 u) : KM w p u0 (sI u 1 (2 + 4 * p + w) y) := ⟨h.1, fun c a b d e f => (funext fun j => sI_i a).trans (h.2.1 c a b d e f), fun j hj => by rw [sI_k hj]; exact h.2.2 j hj⟩
theorem KC.w {w p : Nat} {u0 u u2 : Mem} (h : KC w p u0 u) (g : W89 u u2) : KC w p u0 u2 := ⟨g.1.trans h.1, fun c a b d => (g.2 c a b).trans (h.2.1 c a b d), fun j hj => by rw [g.2 _ (by omega) (by omega)]; exact h.2.2 j hj⟩
theorem KM.w {w p : Nat} {u0 u u2 : Mem} (h : KM w p u0 u) (g2 : u2.2 = u.2) (g1 : ∀ c, c ≠ 4 → c ≠ 5 → c ≠ 6 → c ≠ 7 → u2.1 c = u.1 c) : KM w p u0 u2 := ⟨g2.trans h.1, fun c a b d e f => (g1 c b d e f).trans (h.2.1 c a b d e f), fun j hj => by rw [g1 1 (by decide) (by decide) (by decide) (by decide)]; exact h.2.2 j hj⟩
theorem KC.back {w p : Nat} {u0 u : Mem} (h : KC w p u0 u) : W89 u0 (sI u (28 + p) w (u0.1 (28 + p) w)) := ⟨h.1, fun c a b => by
  by_cases e : c = 28 + p
  · subst e
    exact funext fun j => by
      by_cases ej : j = w
      · subst ej; exact sI_eq
      · rw [sI_k ej]; exact h.2.2 j ej
  · exact (funext fun j => sI_i e).trans (h.2.1 c a b e)⟩
theorem KM.back {w p : Nat} {u0 u : Mem} (h : KM w p u0 u) : (sI u 1 (2 + 4 * p + w) (u0.1 1 (2 + 4 * p + w))).2 = u0.2 ∧ ∀ c, c ≠ 4 → c ≠ 5 → c ≠ 6 → c ≠ 7 → (sI u 1 (2 + 4 * p + w) (u0.1 1 (2 + 4 * p + w))).1 c = u0.1 c := ⟨h.1, fun c b d e f => by
  by_cases ec : c = 1
  · subst ec
    exact funext fun j => by
      by_cases ej : j = 2 + 4 * p + w
      · subst ej; exact sI_eq
      · rw [sI_k ej]; exact h.2.2 j ej
  · exact (funext fun j => sI_i ec).trans (h.2.1 c ec b d e f)⟩
theorem ok4567 {v v2 : Mem} (h2 : v2.2 = v.2) (h1 : ∀ c, c ≠ 4 → c ≠ 5 → c ≠ 6 → c ≠ 7 → v2.1 c = v.1 c) : okM v v2 := ⟨fun i hi => ⟨h1 i (by omega) (by omega) (by omega) (by omega), by rw [h2]⟩, by rw [h1 0 (by decide) (by decide) (by decide) (by decide)], by rw [h1 0 (by decide) (by decide) (by decide) (by decide)]⟩
def uX (X : Nat → PV) (p : Nat) (Z : PV) : Nat → PV := fun q => if q = p then Z else X q
theorem KC.cx {w p : Nat} {u0 u : Mem} {y : Int32} {Z : PV} (h : KC w p u0 u) (hX : CX u0 n X sl) (hp : p < n) (hZ : prC (sI u (28 + p) w y) (28 + p) = Z) (ok : okP Z) : CX (sI u (28 + p) w y) n (uX X p Z) sl := by
  have hn := hX.1
  have e4 : (sI u (28 + p) w y).1 4 = u0.1 4 := (funext fun j => sI_i (by omega)).trans (h.2.1 4 (by decide) (by decide) (by omega))
  refine ⟨hX.1, by rw [e4]; exact hX.2.1, by rw [e4]; exact hX.2.2.1, fun q hq => ?_⟩
  unfold uX
  by_cases e : q = p
  · subst e; rw [if_pos rfl]; exact ⟨hZ, ok⟩
  · rw [if_neg e, prC_ne (by omega), prC_eq (u := u0) (h.2.1 _ (by omega) (by omega) (by omega)) (by rw [h.1])]
    exact hX.2.2.2 q hq
theorem KM.mx {w p : Nat} {v0 v : Mem} {y : Int32} {Z : PV} (h : KM w p v0 v) (hX : MX v0 n X sl) (hw : w < 4) (hp : p < n) (hZ : vM (sI v 1 (2 + 4 * p + w) y) 1 2 p = Z) (ok : okP Z) : MX (sI v 1 (2 + 4 * p + w) y) n (uX X p Z) sl := by
  have hn := hX.1
  refine ⟨hX.1, by rw [sI_k (by omega), h.2.2 0 (by omega)]; exact hX.2.1, by rw [sI_k (by omega), h.2.2 1 (by omega)]; exact hX.2.2.1, fun q hq => ?_⟩
  unfold uX
  by_cases e : q = p
  · subst e; rw [if_pos rfl]; exact ⟨hZ, ok⟩
  · rw [if_neg e, vM_ne e hw]
    have e2 : vM v 1 2 q = vM v0 1 2 q := by
      unfold vM
      rw [h.2.2 _ (by omega), h.2.2 _ (by omega), h.2.2 _ (by omega), h.2.2 _ (by omega), h.1]
    rw [e2]
    exact hX.2.2.2 q hq
theorem kind_L {p : Nat} {u0 v0 : Mem} (hX : CX u0 n X sl) (hY : MX v0 n X sl) (hp : p < n) : ∀ (m k : Nat) (b c : Int32) (u v : Mem) (f g : Nat → Nat → Bool), k ≤ 6 → 6 - k < m → KC 0 p u0 u → KM 0 p v0 v → LM u f g → (∀ j, (j = p ∨ n ≤ j) → g p j = false) → ∃ r u' v', F_X2_likeliestKind_24 m u (nI p) (28 + p) (u0.1 (28 + p) 0) b c (nI k) = some (r, u') ∧ F_X7_kind_30 m v (nI p) (v0.1 1 (2 + 4 * p)) b c (nI k) = some (r, v') ∧ W89 u0 u' ∧ okM v0 v' := by
  intro m
  induction m with
  | zero => intro k b c u v f g _ h; exact absurd h (by omega)
  | succ m ih =>
    intro k b c u v f g hk hm hC hM hL hg
    have hn := hX.1
    have hp2 : p < 12 := by omega
    unfold F_X2_likeliestKind_24 F_X7_kind_30
    by_cases h6 : k = 6
    · subst h6
      rw [if_pos (show (6 : Int32) ≤ nI 6 from nI_le (a := 6) (by omega) (by omega)), if_pos (show (5 : Int32) < nI 6 from nI_lt (a := 5) (by omega) (by omega)), show F_X7_sets v (nI p) 0 (v0.1 1 (2 + 4 * p)) = some (sI v 1 (2 + 4 * p + 0) (v0.1 1 (2 + 4 * p))) from sets_M hp2 (w := 0) (by omega), bdV_s]
      exact ⟨b, _, _, rfl, rfl, hC.back, ok4567 hM.back.1 hM.back.2⟩
    · rw [if_neg (show ¬ (6 : Int32) ≤ nI k from nI_ge (b := 6) (by omega) (by omega)), if_neg (show ¬ (5 : Int32) < nI k from nI_nlt (a := 5) (by omega) (by omega)), show F_X7_sets v (nI p) 0 (nI k) = some (sI v 1 (2 + 4 * p + 0) (nI k)) from sets_M hp2 (w := 0) (by omega), bdV_s]
      have ho := (hX.2.2.2 p hp).2
      have okZ : okP (nI k, (X p).2) := ⟨⟨k, by omega, rfl⟩, ho.2⟩
      have zC : prC (sI u (28 + p) 0 (nI k)) (28 + p) = (nI k, (X p).2) := by
        rw [prC_0, ← (hX.2.2.2 p hp).1]
        unfold prC
        rw [hC.2.2 1 (by decide), hC.2.2 2 (by decide), hC.2.2 3 (by decide), hC.1]
      have zM : vM (sI v 1 (2 + 4 * p + 0) (nI k)) 1 2 p = (nI k, (X p).2) := by
        rw [vM_0, ← (hY.2.2.2 p hp).1]
        unfold vM
        rw [hM.2.2 (3 + 4 * p) (by omega), hM.2.2 (4 + 4 * p) (by omega), hM.2.2 (5 + 4 * p) (by omega), hM.1]
      have cx := hC.cx hX hp zC okZ
      have mx := hM.mx hY (by omega) hp zM okZ
      have hL2 : LM (sI u (28 + p) 0 (nI k)) f g := fun q hq => ⟨(hL q hq).1.congr (sI_i (by omega)) (fun _ _ => rfl), (hL q hq).2.congr (sI_i (by omega)) (fun _ _ => rfl)⟩
      obtain ⟨u1, e1, w1, l1⟩ := weighOne_C cx hL2 hp
      obtain ⟨v1, f1, w2⟩ := withHow_M mx hp
      have hg2 : ∀ j, (j = p ∨ n ≤ j) → Wn p n (onW (uX X p (nI k, (X p).2)) sl) g p j = false := fun j hj => by
        unfold Wn
        rw [if_neg (by omega)]; exact hg j hj
      have pc := row_pc (n := n) (l1 p hp2).2 hn (fun j hj _ => hg2 j (Or.inr hj))
      have ce : ct (Wn p n (onW (uX X p (nI k, (X p).2)) sl) g p) n = ct (EF n (onW (uX X p (nI k, (X p).2)) sl) p) n := ct_congr n (fun j hj => by
        unfold EF
        by_cases e : p = j
        · rw [hg2 j (Or.inl e.symm), decide_eq_false (fun z => z.1 e)]; rfl
        · unfold Wn
          rw [if_pos (by omega), decide_eq_true ⟨e, hp, hj⟩]; rfl)
      rw [ce] at pc
      rw [e1, bdV_s, gd_nI _ hp2 (by omega), cl_nI hp2, pc, bdI_s, f1, bdI_s]
      unfold F_X2_likeliestKind_68 F_X7_kind_64 F_X7_kind_79
      rw [nI_1]
      have kc := (hC.set (y := nI k)).w w1
      have km := (hM.set (y := nI k)).w w2.1 (fun c a b _ _ => w2.2 c a b)
      by_cases hc : nI (ct (EF n (onW (uX X p (nI k, (X p).2)) sl) p) n) ≤ c
      · rw [if_pos hc, if_pos hc, if_pos hc]
        exact ih (k + 1) b c u1 v1 _ _ (by omega) (by omega) kc km l1 hg2
      · rw [if_neg hc, if_neg hc, if_neg hc]
        exact ih (k + 1) _ _ u1 v1 _ _ (by omega) (by omega) kc km l1 hg2
end
theorem ST27 : ST_27 Rel := by
  intro u v x1 hR
  obtain ⟨n, hA⟩ := hR.1
  obtain ⟨hX, hY⟩ := hA.X
  have hn := hX.1
  rcases pk_ix x1 (n := n) (by omega) with h | h | ⟨p, hp, rfl⟩
  · exact ⟨-1000000001, tC u 0, tM v 0, by unfold F_X6_kind; rw [has_out hX.2.1 (Or.inl h)]; rfl, by unfold F_X7_kind; rw [isP_out hY.2.1 hn (Or.inl h)]; rfl, hR.fd 0 (by omega)⟩
  · exact ⟨-1000000001, tC u 0, tM v 0, by unfold F_X6_kind; rw [has_out hX.2.1 (Or.inr h)]; rfl, by unfold F_X7_kind; rw [isP_out hY.2.1 hn (Or.inr h)]; rfl, hR.fd 0 (by omega)⟩
  have hp2 : p < 12 := by omega
  obtain ⟨u1, e1, w1, l1⟩ := weigh_C hX
  obtain ⟨r, u2, v2, a1, a2, a3, a4⟩ := kind_L (w1.X hX) hY hp fu 0 0 (-1) u1 v _ _ (by omega) (by unfold fu; omega) (KC.rf 0 p u1) (KM.rf 0 p v) l1 (fun j hj => by
    unfold EF
    rw [decide_eq_false (by omega)]; rfl)
  have z : nI 0 = (0 : Int32) := rfl
  rw [z] at a1 a2
  refine ⟨r, u2, v2, ?_, ?_, hR.frame (w1.tr a3).ok a4⟩
  · unfold F_X6_kind F_X2_likeliestKind
    rw [has_in hX.2.1 hn hp, bdI_s, ite10, e1, bdV_s, gd_nI _ hp2 (by omega), cl_nI hp2, a1, bdI_s]
  · unfold F_X7_kind
    rw [isP_in hY.2.1 hn hp, bdI_s, ite10, its_M0 hp2, bdI_s]
    exact a2
