/-! PURE: false dates -/
def nq (p : Nat) (l : List Nat) : List Nat := l.filter (fun q => decide (q ≠ p))
def fsq (cn : Nat → Nat → Bool) (p : Nat) : List Nat → Bool
  | [] => true
  | q :: l => (q :: l).all (fun x => cn p x) || (cn q p && fsq cn p l)
theorem fsq_c (cn : Nat → Nat → Bool) (p q : Nat) (l : List Nat) : fsq cn p (q :: l) = ((q :: l).all (fun x => cn p x) || (cn q p && fsq cn p l)) := rfl
theorem fsq_all {cn : Nat → Nat → Bool} {p : Nat} {l : List Nat} (h : l.all (fun x => cn p x) = true) : fsq cn p l = true := by
  cases l with
  | nil => rfl
  | cons q l => rw [fsq_c, h]; rfl
theorem nq_eq {p : Nat} {l : List Nat} : nq p (p :: l) = nq p l := List.filter_cons_of_neg (by simp)
theorem nq_ne {p q : Nat} {l : List Nat} (h : q ≠ p) : nq p (q :: l) = q :: nq p l := List.filter_cons_of_pos (decide_eq_true h)
theorem nq_mem {p x : Nat} {l : List Nat} : x ∈ nq p l ↔ x ∈ l ∧ x ≠ p := by
  unfold nq
  rw [List.mem_filter, decide_eq_true_eq]
theorem fs_chk {u : Mem} {n p A : Nat} {l : List Nat} {cn : Nat → Nat → Bool} (hr : Row u 8 p (EF n cn p)) (hn : n ≤ 12) (hp : p < n) (hA : A < 4096) (hm : ∀ q, A.testBit q = true ↔ q ∈ l ∧ q ≠ p) (hl : ∀ q, q ∈ l → q < n) : (nI A &&& (u.1 8 p ^^^ -1) = 0) ↔ (nq p l).all (fun x => cn p x) = true := by
  obtain ⟨y, hy, ey, ty⟩ := hr
  rw [ey, dif_I, nI0 (Nat.lt_of_le_of_lt (dif_le _ _) hA), sub_dif hA, List.all_eq_true]
  constructor
  · intro h q hq
    have hq := nq_mem.mp hq
    have h1 := h q ((hm q).mpr hq)
    have h2 := hl q hq.1
    rw [ty q (by omega)] at h1
    unfold EF at h1
    rw [Bool.and_eq_true] at h1
    exact h1.2
  · intro h q hq
    have hq2 := (hm q).mp hq
    have hq3 := hl q hq2.1
    rw [ty q (by omega)]
    unfold EF
    rw [decide_eq_true (show p ≠ q ∧ p < n ∧ q < n from ⟨fun z => hq2.2 z.symm, hp, hq3⟩), h q (nq_mem.mpr hq2)]; rfl
theorem fq_s (f : Nat → Bool) (k i : Nat) : fq f (k + 1) i = if f i then some i else fq f k (i + 1) := rfl
section
variable {n : Nat} {X : Nat → PV} {sl : Int32}
theorem fs_26 {u : Mem} {c p : Nat} {g : Nat → Nat} {cn f : Nat → Nat → Bool} (hn : n ≤ 12) (hL : LM u (EF n cn) f) (hp : p < n) (hc : c ≤ n) (hu : ∀ i, i < c → u.1 10 i = nI (g i)) (hg : ∀ i, i < c → g i < n) (hinj : ∀ i j, i < j → j < c → g i ≠ g j) : ∀ m k i A, i + k = c → k < m → A < 4096 → (∀ q, A.testBit q = true ↔ q ∈ ls g k i ∧ q ≠ p) → (nq p (ls g k i)).all (fun x => cn p x) = false → F_X2_fitsSomewhere_26 m u (nI p) (nI c) (nI A) (nI i) = some (bi (fsq cn p (nq p (ls g k i))), u) := by
  have hp12 : p < 12 := by omega
  intro m
  induction m with
  | zero => intro k i A _ h; exact absurd h (by omega)
  | succ m ih =>
    intro k i A h1 hk hA hm ha
    unfold F_X2_fitsSomewhere_26 F_X2_fitsSomewhere_91
    cases k with
    | zero => exact absurd ha (by show ¬ true = false; decide)
    | succ k =>
      have hgi := hg i (by omega)
      have hgi12 : g i < 12 := by omega
      rw [if_neg (nI_ge (by omega) (by omega)), gd_nI _ (show i < 12 by omega) (by omega), cl_nI (show i < 12 by omega), hu i (by omega), nI_1]
      rw [ls_s] at hm ha ⊢
      by_cases e : g i = p
      · rw [if_pos (congrArg nI e)]
        rw [e, nq_eq] at ha ⊢
        exact ih k (i + 1) A (by omega) (by omega) hA (fun q => by
          rw [hm, List.mem_cons]
          constructor
          · rintro ⟨a | a, b⟩
            · exact absurd (a.trans e) b
            · exact ⟨a, b⟩
          · rintro ⟨a, b⟩; exact ⟨Or.inr a, b⟩) ha
      · rw [if_neg (fun z => e ((nI_eq (by omega) (by omega)).mp z)), gd_nI _ hgi12 (by omega), cl_nI hgi12]
        obtain ⟨x, hx, ex, tx⟩ := (hL (g i) hgi12).1
        have exn : x.testBit p = cn (g i) p := by
          rw [tx p hp12]
          unfold EF
          rw [decide_eq_true (show g i ≠ p ∧ g i < n ∧ p < n from ⟨e, hgi, hp⟩)]; rfl
        rw [ex, isIn_C hx hp12, exn, bdI_s]
        rw [nq_ne e] at ha ⊢
        rw [fsq_c, ha, Bool.false_or]
        cases hcn : cn (g i) p
        · rw [if_pos (show bi false = 0 from rfl)]; rfl
        · rw [if_neg (show ¬ bi true = 0 by decide), wo_C hgi12, bdI_s, gd_nI _ hp12 (by omega), cl_nI hp12, Bool.true_and]
          have hd := Nat.lt_of_le_of_lt (dif_le A (2 ^ g i)) hA
          have hm2 : ∀ q, (dif A (2 ^ g i)).testBit q = true ↔ q ∈ ls g k (i + 1) ∧ q ≠ p := fun q => by
            rw [dif_t hA, Bool.and_eq_true, hm, Nat.testBit_two_pow, List.mem_cons]
            constructor
            · rintro ⟨⟨a | a, b⟩, d⟩
              · rw [decide_eq_true a.symm] at d; exact absurd d (by decide)
              · exact ⟨a, b⟩
            · rintro ⟨a, b⟩
              refine ⟨⟨Or.inr a, b⟩, ?_⟩
              obtain ⟨j, j1, j2, j3⟩ := (mem_ls k (i + 1)).mp a
              rw [decide_eq_false (fun z => hinj i j (by omega) (by omega) (z.trans j3.symm))]; rfl
          have hz := fs_chk (hL p hp12).1 hn hp hd hm2 (fun q hq => by
            obtain ⟨j, j1, j2, j3⟩ := (mem_ls k (i + 1)).mp hq
            rw [← j3]; exact hg j (by omega))
          cases hall : (nq p (ls g k (i + 1))).all (fun x => cn p x)
          · rw [if_neg (fun z => by rw [hz.mp z] at hall; exact absurd hall (by decide))]
            exact ih k (i + 1) (dif A (2 ^ g i)) (by omega) (by omega) hd hm2 hall
          · rw [if_pos (hz.mpr hall), fsq_all hall]; rfl
theorem fits_C {u : Mem} {c p s : Nat} {g : Nat → Nat} {cn f : Nat → Nat → Bool} (hn : n ≤ 12) (hL : LM u (EF n cn) f) (hp : p < n) (hc : c ≤ n) (hu : ∀ i, i < c → u.1 10 i = nI (g i)) (hg : ∀ i, i < c → g i < n) (hinj : ∀ i j, i < j → j < c → g i ≠ g j) (hs2 : s < 4096) (hS : SL X n s (ls g c 0)) (hs : s < 2 ^ n) : F_X2_fitsSomewhere u (nI p) (nI s) (nI c) = some (bi (fsq cn p (nq p (ls g c 0))), u) := by
  have hp12 : p < 12 := by omega
  have hd := Nat.lt_of_le_of_lt (dif_le s (2 ^ p)) hs2
  have hm2 : ∀ q, (dif s (2 ^ p)).testBit q = true ↔ q ∈ ls g c 0 ∧ q ≠ p := fun q => by
    rw [dif_t hs2, Bool.and_eq_true, hS.2, Nat.testBit_two_pow]
    constructor
    · rintro ⟨a, d⟩
      refine ⟨⟨?_, a⟩, fun z => ?_⟩
      · by_cases y : q < n
        · exact y
        · rw [tb_out hs (by omega)] at a; exact absurd a (by decide)
      · rw [decide_eq_true z.symm] at d; exact absurd d (by decide)
    · rintro ⟨⟨_, a⟩, b⟩
      exact ⟨a, by rw [decide_eq_false (fun z => b z.symm)]; rfl⟩
  have hz := fs_chk (hL p hp12).1 hn hp hd hm2 (fun q hq => ((hS.2 q).mp hq).1)
  unfold F_X2_fitsSomewhere
  rw [wo_C hp12, bdI_s, gd_nI _ hp12 (by omega), cl_nI hp12]
  cases hall : (nq p (ls g c 0)).all (fun x => cn p x)
  · rw [if_neg (fun z => by rw [hz.mp z] at hall; exact absurd hall (by decide))]
    exact fs_26 hn hL hp hc hu hg hinj fu c 0 (dif s (2 ^ p)) (by omega) (by unfold fu; omega) hd hm2 hall
  · rw [if_pos (hz.mpr hall), fsq_all hall]; rfl
/-! the reference's places -/
def AK (cn : Nat → Nat → Bool) (h : Nat → Nat) (p t j : Nat) : Bool := if j < t then cn (h j) p else cn p (h j)
def exF (f : Nat → Bool) : Nat → Nat → Bool
  | 0, _ => false
  | j + 1, t => f t || exF f j (t + 1)
theorem exF_iff {f : Nat → Bool} : ∀ j t, exF f j t = true ↔ ∃ a, t ≤ a ∧ a < t + j ∧ f a = true := by
  intro j
  induction j with
  | zero => intro t; exact ⟨fun h => absurd h (by show ¬ false = true; decide), fun ⟨a, h1, h2, _⟩ => absurd h2 (by omega)⟩
  | succ j ih =>
    intro t
    show (f t || exF f j (t + 1)) = true ↔ _
    rw [Bool.or_eq_true, ih]
    constructor
    · rintro (h | ⟨a, h1, h2, h3⟩)
      · exact ⟨t, by omega, by omega, h⟩
      · exact ⟨a, by omega, by omega, h3⟩
    · rintro ⟨a, h1, h2, h3⟩
      by_cases e : a = t
      · subst e; exact Or.inl h3
      · exact Or.inr ⟨a, by omega, by omega, h3⟩
theorem fsq_iff {cn : Nat → Nat → Bool} {h : Nat → Nat} {p c : Nat} : ∀ k i, i + k = c → (fsq cn p (ls h k i) = true ↔ ∃ t, i ≤ t ∧ t ≤ c ∧ (∀ j, i ≤ j → j < t → cn (h j) p = true) ∧ ∀ j, t ≤ j → j < c → cn p (h j) = true) := by
  intro k
  induction k with
  | zero => intro i hi; exact ⟨fun _ => ⟨i, by omega, by omega, fun j a b => absurd b (by omega), fun j a b => absurd b (by omega)⟩, fun _ => rfl⟩
  | succ k ih =>
    intro i hi
    have hall : (ls h (k + 1) i).all (fun x => cn p x) = true ↔ ∀ j, i ≤ j → j < c → cn p (h j) = true := by
      rw [List.all_eq_true]
      constructor
      · intro a j h1 h2; exact a (h j) ((mem_ls (k + 1) i).mpr ⟨j, h1, by omega, rfl⟩)
      · intro a x hx
        obtain ⟨j, h1, h2, h3⟩ := (mem_ls (k + 1) i).mp hx
        rw [← h3]; exact a j h1 (by omega)
    rw [ls_s, fsq_c, Bool.or_eq_true, ← ls_s, hall, Bool.and_eq_true, ih (i + 1) (by omega)]
    constructor
    · rintro (a | ⟨a, t, t1, t2, t3, t4⟩)
      · exact ⟨i, by omega, by omega, fun j h1 h2 => absurd h2 (by omega), a⟩
      · refine ⟨t, by omega, t2, fun j h1 h2 => ?_, t4⟩
        by_cases e : j = i
        · rw [e]; exact a
        · exact t3 j (by omega) h2
    · rintro ⟨t, t1, t2, t3, t4⟩
      by_cases e : t = i
      · subst e; exact Or.inl t4
      · exact Or.inr ⟨t3 i (by omega) (by omega), t, by omega, t2, fun j h1 h2 => t3 j (by omega) h2, t4⟩
theorem exF_fsq {cn : Nat → Nat → Bool} {h : Nat → Nat} {p c : Nat} : exF (fun t => al (AK cn h p t) c) (c + 1) 0 = fsq cn p (ls h c 0) := by
  refine bool_iff ?_
  rw [exF_iff, fsq_iff (c := c) c 0 (by omega)]
  constructor
  · rintro ⟨t, _, t2, t3⟩
    have t3 := (al_iff c).mp t3
    refine ⟨t, by omega, by omega, fun j _ h2 => ?_, fun j h1 h2 => ?_⟩
    · have := t3 j (by omega)
      unfold AK at this
      rw [if_pos h2] at this; exact this
    · have := t3 j h2
      unfold AK at this
      rw [if_neg (by omega)] at this; exact this
  · rintro ⟨t, _, t2, t3, t4⟩
    refine ⟨t, by omega, by omega, (al_iff c).mpr (fun j hj => ?_)⟩
    unfold AK
    by_cases e : j < t
    · rw [if_pos e]; exact t3 j (by omega) e
    · rw [if_neg e]; exact t4 j (by omega) hj
theorem fm_86 {v : Mem} {c p t : Nat} {h : Nat → Nat} (hn : n ≤ 12) (hC : CAN v n X sl) (hp : p < n) (hc : c ≤ 12) (ht : t ≤ c) (hq : ∀ j, j < c → v.1 8 j = nI (h j) ∧ h j < n ∧ h j ≠ p) (k69 : Mem → Int32 → Int32 → Int32 → Int32 → Option (Int32 × Mem)) : ∀ m k i, i + k = c → k < m → F_X7_fitsSomewhere_86 k69 m v (nI p) (nI c) (bi (al (AK (cnW X sl) h p t) i)) (nI t) (nI i) = k69 v (nI p) (nI c) (bi (al (AK (cnW X sl) h p t) c)) (nI (t + 1)) := by
  intro m
  induction m with
  | zero => intro k i _ h; exact absurd h (by omega)
  | succ m ih =>
    intro k i h1 hk
    unfold F_X7_fitsSomewhere_86 F_X7_fitsSomewhere_151 F_X7_fitsSomewhere_147 F_X7_fitsSomewhere_152
    cases k with
    | zero =>
      have e : i = c := by omega
      subst e
      rw [if_pos (nI_le (Nat.le_refl i) (by omega)), nI_1]
    | succ k =>
      obtain ⟨q1, q2, q3⟩ := hq i (by omega)
      have H := ih k (i + 1) (by omega) (by omega)
      rw [al_s] at H
      rw [if_neg (nI_ge (by omega) (by omega)), nI_1]
      cases ha : al (AK (cnW X sl) h p t) i
      · rw [ha, Bool.false_and] at H
        rw [if_pos (show bi false = 0 from rfl)]; exact H
      · rw [ha, Bool.true_and] at H
        unfold AK at H
        rw [if_neg (show ¬ bi true = 0 by decide), gd_nI _ (show i < 12 by omega) (by omega), gd_nI _ (show i < 12 by omega) (by omega), cl_nI (show i < 12 by omega), q1, ix12, ix12, gd_nI _ (show 12 * p + h i < 144 by omega) (by omega), gd_nI _ (show 12 * h i + p < 144 by omega) (by omega), nI_clamp (show 12 * p + h i < 2 ^ 31 by omega), nI_clamp (show 12 * h i + p < 2 ^ 31 by omega), hC p (h i) hp q2, hC (h i) p q2 hp, decide_eq_true q3, decide_eq_true (show p ≠ h i from fun z => q3 z.symm), Bool.true_and, Bool.true_and]
        by_cases e : t ≤ i
        · rw [if_pos (nI_le e (by omega))]
          rw [if_neg (show ¬ i < t by omega)] at H
          cases ho : cnW X sl p (h i)
          · rw [ho] at H; rw [if_pos (show bi false = 0 from rfl)]; exact H
          · rw [ho] at H; rw [if_neg (show ¬ bi true = 0 by decide)]; exact H
        · rw [if_neg (nI_ge (by omega) (by omega))]
          rw [if_pos (show i < t by omega)] at H
          cases ho : cnW X sl (h i) p
          · rw [ho] at H; rw [if_pos (show bi false = 0 from rfl)]; exact H
          · rw [ho] at H; rw [if_neg (show ¬ bi true = 0 by decide)]; exact H
theorem fm_69 {v : Mem} {c p : Nat} {h : Nat → Nat} (hn : n ≤ 12) (hC : CAN v n X sl) (hp : p < n) (hc : c ≤ 12) (hq : ∀ j, j < c → v.1 8 j = nI (h j) ∧ h j < n ∧ h j ≠ p) : ∀ m j t, t + j = c + 1 → j < m → F_X7_fitsSomewhere_69 m v (nI p) (nI c) 0 (nI t) = some (bi (exF (fun t => al (AK (cnW X sl) h p t) c) j t), v) := by
  intro m
  induction m with
  | zero => intro j t _ h; exact absurd h (by omega)
  | succ m ih =>
    intro j t h1 hj
    unfold F_X7_fitsSomewhere_69 F_X7_fitsSomewhere_166
    cases j with
    | zero => rw [if_pos (nI_lt (by omega) (by omega))]; rfl
    | succ j =>
      have H := fm_86 (t := t) hn hC hp hc (by omega) hq (F_X7_fitsSomewhere_69 m) fu c 0 (by omega) (by unfold fu; omega)
      rw [show al (AK (cnW X sl) h p t) 0 = true from rfl, show bi true = (1 : Int32) from rfl, show nI 0 = (0 : Int32) from rfl] at H
      rw [if_neg (nI_nlt (by omega) (by omega)), ite00, H]
      show _ = some (bi (al (AK (cnW X sl) h p t) c || exF (fun t => al (AK (cnW X sl) h p t) c) j (t + 1)), v)
      cases ha : al (AK (cnW X sl) h p t) c
      · rw [Bool.false_or]
        exact ih j (t + 1) (by omega) (by omega)
      · rw [Bool.true_or]
        cases m with
        | zero => exact absurd hj (by omega)
        | succ m =>
          unfold F_X7_fitsSomewhere_69 F_X7_fitsSomewhere_166
          rw [gz_bi, if_neg (show ¬ bi true = 0 by decide), ite_self]
theorem ls_congr {g h : Nat → Nat} : ∀ k i, (∀ j, i ≤ j → j < i + k → g j = h j) → ls g k i = ls h k i := by
  intro k
  induction k with
  | zero => intro i _; rfl
  | succ k ih => intro i e; rw [ls_s, ls_s, e i (by omega) (by omega), ih (i + 1) (fun j a b => e j (by omega) (by omega))]
theorem ls_snoc {g : Nat → Nat} : ∀ k i, ls g (k + 1) i = ls g k i ++ [g (i + k)] := by
  intro k
  induction k with
  | zero => intro i; rfl
  | succ k ih => intro i; rw [ls_s, ih (i + 1), ls_s g k i, List.cons_append, show i + 1 + k = i + (k + 1) by omega]
def W8 (v v2 : Mem) : Prop := v2.2 = v.2 ∧ ∀ c, c ≠ 8 → v2.1 c = v.1 c
theorem W8.rf (v : Mem) : W8 v v := ⟨rfl, fun _ _ => rfl⟩
theorem W8.tr {u u2 u3 : Mem} (h : W8 u u2) (g : W8 u2 u3) : W8 u u3 := ⟨g.1.trans h.1, fun c a => (g.2 c a).trans (h.2 c a)⟩
theorem W8.ok {v v2 : Mem} (h : W8 v v2) : okM v v2 := ⟨fun i hi => ⟨h.2 i (by omega), by rw [h.1]⟩, by rw [h.2 0 (by decide)], by rw [h.2 0 (by decide)]⟩
theorem W8.mx {v v2 : Mem} (h : W8 v v2) (g : MX v n X sl) : MX v2 n X sl := g.fr (by rw [h.1]) (h.2 1 (by decide))
theorem W8.can {v v2 : Mem} (h : W8 v v2) (g : CAN v n X sl) : CAN v2 n X sl := fun a b ha hb => by rw [h.2 4 (by decide)]; exact g a b ha hb
theorem fm_5 {s p : Nat} {b : Nat → Nat} (hs2 : s < 4096) (hp : p < n) : ∀ (m k i c : Nat) (h : Nat → Nat) (v : Mem), i + k = n → k < m → c ≤ i → MX v n X sl → (∀ k, k < n → v.1 5 k = nI (b k) ∧ b k < n) → (∀ j, j < c → v.1 8 j = nI (h j) ∧ h j < n ∧ h j ≠ p) → ∃ (c' : Nat) (h' : Nat → Nat) (v' : Mem), F_X7_fitsSomewhere_5 m v (nI p) (nI s) (nI c) (nI i) = F_X7_fitsSomewhere_69 fu v' (nI p) (nI c') 0 0 ∧ W8 v v' ∧ c' ≤ 12 ∧ (∀ j, j < c' → v'.1 8 j = nI (h' j) ∧ h' j < n ∧ h' j ≠ p) ∧ ls h' c' 0 = ls h c 0 ++ nq p ((ls b k i).filter (fun q => s.testBit q)) := by
  intro m
  induction m with
  | zero => intro k i c h v _ hm; exact absurd hm (by omega)
  | succ m ih =>
    intro k i c h v h1 hk hc hX hb hq
    have hn := hX.1
    unfold F_X7_fitsSomewhere_5 F_X7_fitsSomewhere_57
    rw [gd_c0, cl_0, hX.2.1]
    cases k with
    | zero =>
      rw [if_pos (nI_le (by omega) (by omega))]
      exact ⟨c, h, v, rfl, W8.rf v, by omega, hq, by show _ = ls h c 0 ++ []; rw [List.append_nil]⟩
    | succ k =>
      obtain ⟨hbi, hbn⟩ := hb i (by omega)
      have hi12 : i < 12 := by omega
      rw [if_neg (nI_ge (by omega) (by omega)), gd_nI _ hi12 (by omega), cl_nI hi12, hbi, has_M hs2 (by omega), bdI_s, gd_nI _ hi12 (by omega), gd_nI _ hi12 (by omega), hbi, nI_1, nI_1, gd_nI _ (show c < 12 by omega) (by omega), cl_nI (show c < 12 by omega), ls_s]
      cases hsb : s.testBit (b i)
      · rw [if_pos (show bi false = 0 from rfl), List.filter_cons_of_neg (by rw [hsb]; decide)]
        exact ih k (i + 1) c h v (by omega) (by omega) (by omega) hX hb hq
      · rw [if_neg (show ¬ bi true = 0 by decide), List.filter_cons_of_pos hsb]
        by_cases e : b i = p
        · rw [if_pos (congrArg nI e), e, nq_eq]
          exact ih k (i + 1) c h v (by omega) (by omega) (by omega) hX hb hq
        · rw [if_neg (fun z => e ((nI_eq (by omega) (by omega)).mp z)), nq_ne e]
          have w : W8 v (sI v 8 c (nI (b i))) := ⟨rfl, fun c h => funext fun j => sI_i h⟩
          obtain ⟨c', h', v', e1, e2, e3, e4, e5⟩ := ih k (i + 1) (c + 1) (fun j => if j = c then b i else h j) (sI v 8 c (nI (b i))) (by omega) (by omega) (by omega) (w.mx hX) (fun k hk => by rw [sI_i (by decide)]; exact hb k hk) (fun j hj => by
            show (sI v 8 c (nI (b i))).1 8 j = nI (if j = c then b i else h j) ∧ (if j = c then b i else h j) < n ∧ (if j = c then b i else h j) ≠ p
            by_cases z : j = c
            · rw [if_pos z, z, sI_eq]; exact ⟨rfl, hbn, e⟩
            · rw [if_neg z, sI_k z]; exact hq j (by omega))
          refine ⟨c', h', v', e1, w.tr e2, e3, e4, ?_⟩
          rw [e5, ls_snoc, ls_congr (h := h) c 0 (fun j _ h2 => if_neg (by omega)), List.append_assoc, Nat.zero_add]
          show ls h c 0 ++ ([if c = c then b i else h c] ++ _) = _
          rw [if_pos rfl]; rfl
theorem fits_M {v : Mem} {s p : Nat} {b : Nat → Nat} (hX : MX v n X sl) (hC : CAN v n X sl) (hs2 : s < 4096) (hp : p < n) (hb : ∀ k, k < n → v.1 5 k = nI (b k) ∧ b k < n) : ∃ v', F_X7_fitsSomewhere v (nI p) (nI s) = some (bi (fsq (cnW X sl) p (nq p ((ls b n 0).filter (fun q => s.testBit q)))), v') ∧ W8 v v' := by
  have hn := hX.1
  obtain ⟨c, h, v', e1, w1, h1, h2, h3⟩ := fm_5 (s := s) hs2 hp fu n 0 0 (fun _ => 0) v (by omega) (by unfold fu; omega) (by omega) hX hb (fun j hj => absurd hj (by omega))
  have h4 := fm_69 hn (w1.can hC) hp h1 h2 fu (c + 1) 0 (by omega) (by unfold fu; omega)
  rw [exF_fsq, h3] at h4
  exact ⟨v', e1.trans h4, w1⟩
/-! the search -/
theorem md_8 {u : Mem} {c s : Nat} {g : Nat → Nat} (hX : CX u n X sl) (hL : LM u (EF n (cnW X sl)) (EF n (onW X sl))) (hc : c ≤ n) (hu : ∀ i, i < c → u.1 10 i = nI (g i)) (hg : ∀ i, i < c → g i < n) (hinj : ∀ i j, i < j → j < c → g i ≠ g j) (hs2 : s < 4096) (hS : SL X n s (ls g c 0)) (hs : s < 2 ^ n) : ∀ m k i, i + k = n → k < m → F_X2_misdated_8 m u (nI s) (nI c) (nI i) = some (op1 (fq (fun p => s.testBit p && (RG (onW X sl) n (dif s (2 ^ p)) && fsq (cnW X sl) p (nq p (ls g c 0)))) k i), u) := by
  intro m
  induction m with
  | zero => intro k i _ h; exact absurd h (by omega)
  | succ m ih =>
    intro k i h1 hk
    have hn := hX.1
    unfold F_X2_misdated_8 F_X2_misdated_51
    rw [hX.2.1]
    cases k with
    | zero => rw [if_pos (nI_le (by omega) (by omega))]; rfl
    | succ k =>
      have hi : i < n := by omega
      have hdl := dif_le s (2 ^ i)
      rw [if_neg (nI_ge (by omega) (by omega)), isIn_C hs2 (by omega), bdI_s, wo_C (show i < 12 by omega), bdI_s, isRing_C hn hX.2.1 hL (show dif s (2 ^ i) < 2 ^ n by omega) (show dif s (2 ^ i) < 4096 by omega), bdI_s, fits_C hn hL hi hc hu hg hinj hs2 hS hs, bdI_s, nI_1, ih k (i + 1) (by omega) (by omega)]
      rw [fq_s]
      cases h2 : s.testBit i
      · rw [if_pos (show bi false = 0 from rfl), Bool.false_and, if_neg (by decide)]
      · rw [if_neg (show ¬ bi true = 0 by decide), Bool.true_and]
        cases h3 : RG (onW X sl) n (dif s (2 ^ i))
        · rw [if_pos (show bi false = 0 from rfl), Bool.false_and, if_neg (by decide)]
        · rw [if_neg (show ¬ bi true = 0 by decide), Bool.true_and]
          cases h4 : fsq (cnW X sl) i (nq i (ls g c 0))
          · rw [if_pos (show bi false = 0 from rfl), if_neg (by decide)]
          · rw [if_neg (show ¬ bi true = 0 by decide), if_pos rfl]; rfl
theorem fd_37 {s : Nat} {b : Nat → Nat} (hs2 : s < 4096) (hs : s < 2 ^ n) : ∀ (m k i : Nat) (v : Mem), i + k = n → k < m → MX v n X sl → CAN v n X sl → RT v n (onW X sl) → (∀ k, k < n → v.1 5 k = nI (b k) ∧ b k < n) → ∃ v', W8 v v' ∧ ((fq (fun p => s.testBit p && (RG (onW X sl) n (dif s (2 ^ p)) && fsq (cnW X sl) p (nq p ((ls b n 0).filter (fun q => s.testBit q))))) k i = none ∧ F_X7_falseDate_37 m v (nI s) (nI i) = some (-1000000004, tM v' 3)) ∨ ∃ j, j < n ∧ fq (fun p => s.testBit p && (RG (onW X sl) n (dif s (2 ^ p)) && fsq (cnW X sl) p (nq p ((ls b n 0).filter (fun q => s.testBit q))))) k i = some j ∧ F_X7_falseDate_37 m v (nI s) (nI i) = some (nI j, v')) := by
  intro m
  induction m with
  | zero => intro k i v _ h; exact absurd h (by omega)
  | succ m ih =>
    intro k i v h1 hk hX hC hT hb
    have hn := hX.1
    unfold F_X7_falseDate_37 F_X7_falseDate_79 F_X7_falseDate_85 F_X7_falseDate_105
    rw [gd_c0, gd_c0, cl_0, hX.2.1]
    cases k with
    | zero =>
      refine ⟨v, W8.rf v, Or.inl ⟨rfl, ?_⟩⟩
      rw [if_pos (nI_le (by omega) (by omega)), if_pos (nI_le (by omega) (by omega)), fd_M3, bdI_s]
    | succ k =>
      have hi : i < n := by omega
      have hdl := dif_le s (2 ^ i)
      obtain ⟨v1, f1, w1⟩ := fits_M hX hC hs2 hi hb
      have next : ∀ v1, W8 v v1 → ∃ v', W8 v v' ∧ ((fq (fun p => s.testBit p && (RG (onW X sl) n (dif s (2 ^ p)) && fsq (cnW X sl) p (nq p ((ls b n 0).filter (fun q => s.testBit q))))) k (i + 1) = none ∧ F_X7_falseDate_37 m v1 (nI s) (nI (i + 1)) = some (-1000000004, tM v' 3)) ∨ ∃ j, j < n ∧ fq (fun p => s.testBit p && (RG (onW X sl) n (dif s (2 ^ p)) && fsq (cnW X sl) p (nq p ((ls b n 0).filter (fun q => s.testBit q))))) k (i + 1) = some j ∧ F_X7_falseDate_37 m v1 (nI s) (nI (i + 1)) = some (nI j, v')) := fun v1 w1 => by
        obtain ⟨v', w', r⟩ := ih k (i + 1) v1 (by omega) (by omega) (w1.mx hX) (w1.can hC) (fun t ht => by rw [w1.2 6 (by decide)]; exact hT t ht) (fun k hk => by rw [w1.2 5 (by decide)]; exact hb k hk)
        exact ⟨v', w1.tr w', r⟩
      rw [if_neg (nI_ge (by omega) (by omega)), has_M hs2 (by omega), bdI_s, bit_I i (by omega), dif_I, gd_nI _ (show dif s (2 ^ i) < 4096 by omega) (by omega), nI_clamp (show dif s (2 ^ i) < 2 ^ 31 by omega), hT _ (by omega), f1, bdI_s, gd_c0, (w1.mx hX).2.1, if_neg (nI_ge hi (by omega)), nI_1]
      rw [fq_s]
      cases h2 : s.testBit i
      · rw [if_pos (show bi false = 0 from rfl), Bool.false_and, if_neg (by decide)]
        exact next v (W8.rf v)
      · rw [if_neg (show ¬ bi true = 0 by decide), Bool.true_and]
        cases h3 : RG (onW X sl) n (dif s (2 ^ i))
        · rw [if_pos (show bi false = 0 from rfl), Bool.false_and, if_neg (by decide)]
          exact next v (W8.rf v)
        · rw [if_neg (show ¬ bi true = 0 by decide), Bool.true_and]
          cases h4 : fsq (cnW X sl) i (nq i ((ls b n 0).filter (fun q => s.testBit q)))
          · rw [if_pos (show bi false = 0 from rfl), if_neg (by decide)]
            exact next v1 w1
          · rw [if_neg (show ¬ bi true = 0 by decide), if_pos rfl]
            exact ⟨v1, w1, Or.inr ⟨i, hi, rfl, rfl⟩⟩
end
theorem ST21 : ST_21 Rel := by
  intro u v x1 hR
  obtain ⟨n, hA⟩ := hR.1
  obtain ⟨hX, hY⟩ := hA.X
  have hn := hX.1
  rcases set_cases hX.2.1 hY.2.1 hX.1 x1 with ⟨c, m⟩ | ⟨s, hs, hs2, rfl, c, m⟩
  · exact ⟨-1000000001, tC u 0, tM v 0, by unfold F_X6_falseDate; rw [c]; rfl, by unfold F_X7_falseDate; rw [m]; rfl, hR.fd 0 (by omega)⟩
  obtain ⟨u1, e1, w1, l1⟩ := weigh_C hX
  obtain ⟨v1, f1, w2, c1, b1, r1⟩ := findRings_M hY
  unfold F_X6_falseDate F_X7_falseDate
  rw [c, bdI_s, ite10, e1, bdV_s, isRing_C hn (w1.X hX).2.1 l1 hs hs2, bdI_s, m, bdI_s, ite10, f1, bdV_s, gd_nI _ hs2 (by omega), nI_clamp (show s < 2 ^ 31 by omega), r1 s hs]
  cases hr : RG (onW (vM v 1 2) (v.1 1 1)) n s
  · rw [if_pos (show bi false = 0 from rfl), if_pos (show bi false = 0 from rfl)]
    obtain ⟨cn, g, u2, e2, w3, h1, h2, h3, h4, h5⟩ := row_C (w1.X hX) hs2
    obtain ⟨b, hb, hbs⟩ := byy_L b1
    have e := h5.uq (hbs.filter (s := s))
    have l2 : LM u2 (EF n (cnW (vM v 1 2) (v.1 1 1))) (EF n (onW (vM v 1 2) (v.1 1 1))) := l1.fr (w3.2 8 (by decide)) (w3.2 9 (by decide))
    have a1 := md_8 (w3.X (w1.X hX)) l2 h1 h2 h3 (fun i j hij hj z => by
      have := h4 i j hij hj
      rw [z, erW_ir] at this
      exact absurd this (by decide)) hs2 h5 hs fu n 0 (by omega) (by unfold fu; omega)
    obtain ⟨v2, w4, a2⟩ := fd_37 hs2 hs fu n 0 v1 (by omega) (by unfold fu; omega) (w2.mx hY) c1 r1 hb
    rw [e] at a1
    have z : nI 0 = (0 : Int32) := rfl
    rw [z] at a1 a2
    have rr := hR.frame (w1.ok.tr w3.ok) (w2.ok.tr w4.ok)
    unfold F_X2_misdated F_X6_printOr F_X6_printOr_14
    rw [e2, bdI_s, a1, bdI_s]
    rcases a2 with ⟨q1, q2⟩ | ⟨j, hj, q1, q2⟩
    · rw [q1, q2, show op1 none = -1 from rfl, if_pos rfl, fd_C3, bdI_s, bdI_s]
      exact ⟨_, _, _, rfl, rfl, rr.fd 3 (by omega)⟩
    · have ne : ¬ nI j = -1 := fun z => by
        have := nI_pos (n := j) (by omega)
        rw [z] at this
        exact this (by decide)
      rw [q1, q2, show op1 (some j) = nI j from rfl, if_neg ne, bdI_s]
      exact ⟨_, _, _, rfl, rfl, rr⟩
  · rw [if_neg (show ¬ bi true = 0 by decide), if_neg (show ¬ bi true = 0 by decide), fd_C4, bdI_s, fd_M4, bdI_s]
    exact ⟨_, _, _, rfl, rfl, (hR.frame w1.ok w2.ok).fd 4 (by omega)⟩
