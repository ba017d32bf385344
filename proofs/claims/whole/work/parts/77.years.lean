/-! PURE: rows by years -/
def ls (g : Nat → Nat) : Nat → Nat → List Nat
  | 0, _ => []
  | k + 1, i => g i :: ls g k (i + 1)
theorem ls_s (g : Nat → Nat) (k i : Nat) : ls g (k + 1) i = g i :: ls g k (i + 1) := rfl
theorem mem_ls {g : Nat → Nat} {x : Nat} : ∀ k i, x ∈ ls g k i ↔ ∃ j, i ≤ j ∧ j < i + k ∧ g j = x := by
  intro k
  induction k with
  | zero => intro i; exact ⟨fun h => absurd h List.not_mem_nil, fun ⟨j, a, b, _⟩ => absurd b (by omega)⟩
  | succ k ih =>
    intro i
    rw [ls_s, List.mem_cons, ih]
    constructor
    · rintro (h | ⟨j, a, b, c⟩)
      · exact ⟨i, by omega, by omega, h.symm⟩
      · exact ⟨j, by omega, by omega, c⟩
    · rintro ⟨j, a, b, c⟩
      by_cases e : j = i
      · subst e; exact Or.inl c.symm
      · exact Or.inr ⟨j, by omega, by omega, c⟩
theorem pw_ls {R : Nat → Nat → Prop} {g : Nat → Nat} : ∀ k i, (∀ a b, i ≤ a → a < b → b < i + k → R (g a) (g b)) → (ls g k i).Pairwise R := by
  intro k
  induction k with
  | zero => intro i _; exact List.Pairwise.nil
  | succ k ih =>
    intro i h
    rw [ls_s, List.pairwise_cons]
    refine ⟨fun a ha => ?_, ih (i + 1) (fun a b h1 h2 h3 => h a b (by omega) h2 (by omega))⟩
    obtain ⟨j, h1, h2, h3⟩ := (mem_ls k (i + 1)).mp ha
    rw [← h3]
    exact h i j (by omega) (by omega) (by omega)
def SL (X : Nat → PV) (n s : Nat) (l : List Nat) : Prop := l.Pairwise (fun a b => erW X a b = true) ∧ ∀ x, x ∈ l ↔ x < n ∧ s.testBit x = true
theorem pw_uq {X : Nat → PV} : ∀ l1 l2 : List Nat, l1.Pairwise (fun a b => erW X a b = true) → l2.Pairwise (fun a b => erW X a b = true) → (∀ x, x ∈ l1 ↔ x ∈ l2) → l1 = l2 := by
  intro l1
  induction l1 with
  | nil =>
    intro l2 _ _ h
    cases l2 with
    | nil => rfl
    | cons b l2 => exact absurd ((h b).mpr List.mem_cons_self) List.not_mem_nil
  | cons a l1 ih =>
    intro l2 h1 h2 h
    cases l2 with
    | nil => exact absurd ((h a).mp List.mem_cons_self) List.not_mem_nil
    | cons b l2 =>
      rw [List.pairwise_cons] at h1 h2
      have hab : a = b := by
        by_cases e : a = b
        · exact e
        · have ha : a ∈ l2 := by
            rcases List.mem_cons.mp ((h a).mp List.mem_cons_self) with z | z
            · exact absurd z e
            · exact z
          have hb : b ∈ l1 := by
            rcases List.mem_cons.mp ((h b).mpr List.mem_cons_self) with z | z
            · exact absurd z.symm e
            · exact z
          have := erW_tr (h1.1 b hb) (h2.1 a ha)
          rw [erW_ir] at this
          exact absurd this (by decide)
      subst hab
      rw [ih l2 h1.2 h2.2 (fun x => ?_)]
      have n1 : a ∉ l1 := fun z => by have := h1.1 a z; rw [erW_ir] at this; exact absurd this (by decide)
      have n2 : a ∉ l2 := fun z => by have := h2.1 a z; rw [erW_ir] at this; exact absurd this (by decide)
      constructor
      · intro hx
        rcases List.mem_cons.mp ((h x).mp (List.mem_cons_of_mem _ hx)) with z | z
        · rw [z] at hx; exact absurd hx n1
        · exact z
      · intro hx
        rcases List.mem_cons.mp ((h x).mpr (List.mem_cons_of_mem _ hx)) with z | z
        · rw [z] at hx; exact absurd hx n2
        · exact z
theorem SL.uq {X : Nat → PV} {n s : Nat} {l1 l2 : List Nat} (h1 : SL X n s l1) (h2 : SL X n s l2) : l1 = l2 := pw_uq l1 l2 h1.1 h2.1 (fun x => by rw [h1.2, h2.2])
def W10 (u u2 : Mem) : Prop := u2.2 = u.2 ∧ ∀ c, c ≠ 10 → u2.1 c = u.1 c
theorem W10.rf (u : Mem) : W10 u u := ⟨rfl, fun _ _ => rfl⟩
theorem W10.tr {u u2 u3 : Mem} (h : W10 u u2) (g : W10 u2 u3) : W10 u u3 := ⟨g.1.trans h.1, fun c a => (g.2 c a).trans (h.2 c a)⟩
theorem W10.set {u : Mem} {k : Nat} {x : Int32} : W10 u (sI u 10 k x) := ⟨rfl, fun c h => funext fun j => sI_i h⟩
theorem W10.ok {u u2 : Mem} (h : W10 u u2) : okC u u2 := fun i a _ _ => ⟨h.2 i (by omega), by rw [h.1]⟩
def insF (g : Nat → Nat) (p a i : Nat) : Nat := if i < a then g i else if i = a then p else g (i - 1)
theorem W10.X {n : Nat} {X : Nat → PV} {sl : Int32} {u u2 : Mem} (h : W10 u u2) (g : CX u n X sl) : CX u2 n X sl := by
  have e := h.2 4 (by decide)
  refine ⟨g.1, by rw [e]; exact g.2.1, by rw [e]; exact g.2.2.1, fun p hp => ?_⟩
  rw [prC_eq (u2 := u2) (u := u) (h.2 _ (by omega)) (by rw [h.1])]
  exact g.2.2.2 p hp
section
variable {n : Nat} {X : Nat → PV} {sl : Int32}
theorem er_X {u : Mem} {p q : Nat} (hX : CX u n X sl) (hp : p < n) (hq : q < n) : F_X0_isEarlier 1 u (nI p) (nI q) = some (bi (erW X p q), u) := by
  have hn := hX.1
  rw [er_C (show p < 12 by omega) (show q < 12 by omega), (hX.2.2.2 p hp).1, (hX.2.2.2 q hq).1]; rfl
theorem rb_26 {s p c : Nat} {g : Nat → Nat} (hp : p < n) (hn : n ≤ 12) (hc : c ≤ p) (hg : ∀ i, i < c → g i < p) (hsort : ∀ i j, i < j → j < c → erW X (g i) (g j) = true) (k4 : Mem → Int32 → Int32 → Int32 → Option (Int32 × Mem)) : ∀ (m a : Nat) (u : Mem), a < m → a ≤ c → CX u n X sl → (∀ i, i < a → u.1 10 i = nI (g i)) → (∀ i, a ≤ i → i < c → u.1 10 (i + 1) = nI (g i)) → (∀ i, a ≤ i → i < c → erW X p (g i) = true) → ∃ u' a', F_X2_rowByYears_26 k4 m u (nI s) (nI c) (nI p) (nI a) = k4 u' (nI s) (nI (c + 1)) (nI (p + 1)) ∧ W10 u u' ∧ a' ≤ c ∧ (∀ i, i < c + 1 → u'.1 10 i = nI (insF g p a' i)) ∧ (∀ i, a' ≤ i → i < c → erW X p (g i) = true) ∧ ∀ i, i < a' → erW X p (g i) = false := by
  intro m
  induction m with
  | zero => intro a u h; exact absurd h (by omega)
  | succ m ih =>
    intro a u hm ha hX h1 h2 h3
    have stop : (∀ i, i < a → erW X p (g i) = false) → ∃ u' a', F_X2_rowByYears_73 k4 u (nI s) (nI c) (nI p) (nI a) = k4 u' (nI s) (nI (c + 1)) (nI (p + 1)) ∧ W10 u u' ∧ a' ≤ c ∧ (∀ i, i < c + 1 → u'.1 10 i = nI (insF g p a' i)) ∧ (∀ i, a' ≤ i → i < c → erW X p (g i) = true) ∧ ∀ i, i < a' → erW X p (g i) = false := fun h4 => by
      unfold F_X2_rowByYears_73 F_X2_rowByYears_84
      rw [gd_nI _ (show a < 12 by omega) (by omega), cl_nI (show a < 12 by omega), nI_1, nI_1]
      refine ⟨_, a, rfl, W10.set, ha, fun i hi => ?_, h3, h4⟩
      unfold insF
      by_cases e : i < a
      · rw [if_pos e, sI_k (by omega)]; exact h1 i e
      · rw [if_neg e]
        by_cases e2 : i = a
        · rw [if_pos e2, e2, sI_eq]
        · rw [if_neg e2, sI_k e2]
          have := h2 (i - 1) (by omega) (by omega)
          rw [show i - 1 + 1 = i by omega] at this
          exact this
    unfold F_X2_rowByYears_26
    cases a with
    | zero =>
      rw [if_pos (show nI 0 ≤ (0 : Int32) by decide)]
      exact stop (fun i hi => absurd hi (by omega))
    | succ a =>
      have hga := hg a (by omega)
      rw [if_neg (nI_nle (by omega) (by omega)), nI_pred, gd_nI _ (show a < 12 by omega) (by omega), cl_nI (show a < 12 by omega), h1 a (by omega), er_X hX hp (by omega), bdI_s]
      cases he : erW X p (g a)
      · rw [if_pos (show bi false = 0 from rfl)]
        refine stop (fun i hi => ?_)
        by_cases e : i = a
        · rw [e]; exact he
        · cases hi2 : erW X p (g i)
          · rfl
          · have := erW_tr hi2 (hsort i a (by omega) (by omega))
            rw [he] at this; exact absurd this (by decide)
      · rw [if_neg (show ¬ bi true = 0 by decide), gd_nI _ (show a < 12 by omega) (by omega), gd_nI _ (show a + 1 < 12 by omega) (by omega), cl_nI (show a + 1 < 12 by omega), h1 a (by omega)]
        obtain ⟨u', a', e1, w1, r1, r2, r3, r4⟩ := ih a (sI u 10 (a + 1) (nI (g a))) (by omega) (by omega) (W10.set.X hX) (fun i hi => by rw [sI_k (by omega)]; exact h1 i (by omega)) (fun i hi hi2 => by
          by_cases e : i = a
          · subst e; exact sI_eq
          · rw [sI_k (by omega)]; exact h2 i (by omega) hi2) (fun i hi hi2 => by
          by_cases e : i = a
          · subst e; exact he
          · exact h3 i (by omega) hi2)
        exact ⟨u', a', e1, W10.set.tr w1, r1, r2, r3, r4⟩
theorem rb_4 {s : Nat} (hs2 : s < 4096) : ∀ (m k p c : Nat) (g : Nat → Nat) (u : Mem), p + k = n → k < m → CX u n X sl → c ≤ p → (∀ i, i < c → u.1 10 i = nI (g i)) → (∀ i j, i < j → j < c → erW X (g i) (g j) = true) → (∀ x, (∃ i, i < c ∧ g i = x) ↔ x < p ∧ s.testBit x = true) → ∃ (c' : Nat) (g' : Nat → Nat) (u' : Mem), F_X2_rowByYears_4 m u (nI s) (nI c) (nI p) = some (nI c', u') ∧ W10 u u' ∧ c' ≤ n ∧ (∀ i, i < c' → u'.1 10 i = nI (g' i)) ∧ (∀ i j, i < j → j < c' → erW X (g' i) (g' j) = true) ∧ ∀ x, (∃ i, i < c' ∧ g' i = x) ↔ x < n ∧ s.testBit x = true := by
  intro m
  induction m with
  | zero => intro k p c g u _ h; exact absurd h (by omega)
  | succ m ih =>
    intro k p c g u h1 hk hX hc hu hsort hmem
    have hn := hX.1
    unfold F_X2_rowByYears_4 F_X2_rowByYears_84
    rw [hX.2.1]
    cases k with
    | zero =>
      have e : p = n := by omega
      subst e
      rw [if_pos (nI_le (Nat.le_refl p) (by omega))]
      exact ⟨c, g, u, rfl, W10.rf u, hc, hu, hsort, hmem⟩
    | succ k =>
      have hp : p < n := by omega
      rw [if_neg (nI_ge hp (by omega)), isIn_C hs2 (by omega), bdI_s]
      cases hb : s.testBit p
      · rw [if_pos (show bi false = 0 from rfl), nI_1]
        refine ih k (p + 1) c g u (by omega) (by omega) hX (by omega) hu hsort (fun x => ?_)
        rw [hmem]
        constructor
        · rintro ⟨a, b⟩; exact ⟨by omega, b⟩
        · rintro ⟨a, b⟩
          refine ⟨?_, b⟩
          by_cases e : x = p
          · rw [e, hb] at b; exact absurd b (by decide)
          · omega
      · rw [if_neg (show ¬ bi true = 0 by decide)]
        have hg : ∀ i, i < c → g i < p := fun i hi => ((hmem (g i)).mp ⟨i, hi, rfl⟩).1
        obtain ⟨u1, a, e1, w1, r1, r2, r3, r4⟩ := rb_26 (s := s) (sl := sl) hp hn hc hg hsort (F_X2_rowByYears_4 m) fu c u (by unfold fu; omega) (Nat.le_refl c) hX hu (fun i h1 h2 => absurd h1 (by omega)) (fun i h1 h2 => absurd h1 (by omega))
        obtain ⟨c', g', u', f1, f2, f3⟩ := ih k (p + 1) (c + 1) (insF g p a) u1 (by omega) (by omega) (w1.X hX) (by omega) r2 (fun i j hij hj => by
          unfold insF
          by_cases hi : i < a
          · rw [if_pos hi]
            by_cases hj1 : j < a
            · rw [if_pos hj1]; exact hsort i j hij (by omega)
            · rw [if_neg hj1]
              by_cases hj2 : j = a
              · rw [if_pos hj2]
                have := r4 i hi
                have hne : g i ≠ p := by have := hg i (by omega); omega
                rw [erW_not hne, this]; rfl
              · rw [if_neg hj2]; exact hsort i (j - 1) (by omega) (by omega)
          · rw [if_neg hi, if_neg (show ¬ j < a by omega), if_neg (show ¬ j = a by omega)]
            by_cases hi2 : i = a
            · rw [if_pos hi2]; exact r3 (j - 1) (by omega) (by omega)
            · rw [if_neg hi2]; exact hsort (i - 1) (j - 1) (by omega) (by omega)) (fun x => by
          constructor
          · rintro ⟨i, hi, e⟩
            unfold insF at e
            by_cases h1 : i < a
            · rw [if_pos h1] at e
              have := (hmem x).mp ⟨i, by omega, e⟩
              exact ⟨by omega, this.2⟩
            · rw [if_neg h1] at e
              by_cases h2 : i = a
              · rw [if_pos h2] at e; rw [← e]; exact ⟨by omega, hb⟩
              · rw [if_neg h2] at e
                have := (hmem x).mp ⟨i - 1, by omega, e⟩
                exact ⟨by omega, this.2⟩
          · rintro ⟨h1, h2⟩
            by_cases e : x = p
            · exact ⟨a, by omega, by unfold insF; rw [if_neg (by omega), if_pos rfl, e]⟩
            · obtain ⟨i, hi, ei⟩ := (hmem x).mpr ⟨by omega, h2⟩
              by_cases h3 : i < a
              · exact ⟨i, by omega, by unfold insF; rw [if_pos h3]; exact ei⟩
              · exact ⟨i + 1, by omega, by unfold insF; rw [if_neg (by omega), if_neg (by omega)]; exact ei⟩)
        exact ⟨c', g', u', e1.trans f1, w1.tr f2, f3⟩
theorem row_C {u : Mem} {s : Nat} (hX : CX u n X sl) (hs2 : s < 4096) : ∃ (c : Nat) (g : Nat → Nat) (u' : Mem), F_X2_rowByYears u (nI s) = some (nI c, u') ∧ W10 u u' ∧ c ≤ n ∧ (∀ i, i < c → u'.1 10 i = nI (g i)) ∧ (∀ i, i < c → g i < n) ∧ (∀ i j, i < j → j < c → erW X (g i) (g j) = true) ∧ SL X n s (ls g c 0) := by
  obtain ⟨c, g, u', e1, w1, h1, h2, h3, h4⟩ := rb_4 (s := s) hs2 fu n 0 0 (fun _ => 0) u (by omega) (by have := hX.1; unfold fu; omega) hX (by omega) (fun i h => absurd h (by omega)) (fun i j _ h => absurd h (by omega)) (fun x => ⟨fun ⟨i, h, _⟩ => absurd h (by omega), fun ⟨h, _⟩ => absurd h (by omega)⟩)
  refine ⟨c, g, u', e1, w1, h1, h2, fun i hi => ((h4 (g i)).mp ⟨i, hi, rfl⟩).1, h3, pw_ls c 0 (fun a b _ hab hb => h3 a b hab (by omega)), fun x => ?_⟩
  rw [mem_ls, ← h4]
  constructor
  · rintro ⟨j, _, a, b⟩; exact ⟨j, by omega, b⟩
  · rintro ⟨j, a, b⟩; exact ⟨j, by omega, by omega, b⟩
/-! the reference's order -/
theorem pigeon : ∀ (n : Nat) (f : Nat → Nat), (∀ a, a < n → f a < n) → (∀ a b, a < n → b < n → f a = f b → a = b) → ∀ k, k < n → ∃ a, a < n ∧ f a = k := by
  intro n
  induction n with
  | zero => intro f _ _ k h; omega
  | succ n ih =>
    intro f hf hi k hk
    have h := ih (fun a => if f a = n then f n else f a) (fun a ha => by
      show (if f a = n then f n else f a) < n
      have h1 := hf a (by omega)
      have h2 := hf n (by omega)
      by_cases e : f a = n
      · rw [if_pos e]
        by_cases e2 : f n = n
        · have := hi a n (by omega) (by omega) (by omega); omega
        · omega
      · rw [if_neg e]; omega) (fun a b ha hb he => by
      have he : (if f a = n then f n else f a) = (if f b = n then f n else f b) := he
      by_cases ea : f a = n
      · by_cases eb : f b = n
        · exact hi a b (by omega) (by omega) (by omega)
        · rw [if_pos ea, if_neg eb] at he
          have := hi n b (by omega) (by omega) he; omega
      · by_cases eb : f b = n
        · rw [if_neg ea, if_pos eb] at he
          have := hi a n (by omega) (by omega) he; omega
        · rw [if_neg ea, if_neg eb] at he
          exact hi a b (by omega) (by omega) he)
    by_cases ek : k = f n
    · exact ⟨n, by omega, ek.symm⟩
    · by_cases en : k = n
      · obtain ⟨a, ha, e⟩ := h (f n) (by have := hf n (by omega); omega)
        have e : (if f a = n then f n else f a) = f n := e
        by_cases ea : f a = n
        · exact ⟨a, by omega, by omega⟩
        · rw [if_neg ea] at e
          have := hi a n (by omega) (by omega) e; omega
      · obtain ⟨a, ha, e⟩ := h k (by omega)
        have e : (if f a = n then f n else f a) = k := e
        by_cases ea : f a = n
        · rw [if_pos ea] at e; exact absurd e.symm ek
        · rw [if_neg ea] at e; exact ⟨a, by omega, e⟩
theorem byy_L {v : Mem} (hB : BYY v n X) : ∃ b : Nat → Nat, (∀ k, k < n → v.1 5 k = nI (b k) ∧ b k < n) ∧ SL X n (2 ^ n - 1) (ls b n 0) := by
  have hs := pigeon n (rk n X) (fun a ha => rk_lt ha) (fun a b ha hb h => rk_inj ha hb h)
  have hex : ∀ k, ∃ a, k < n → a < n ∧ rk n X a = k := fun k => by
    by_cases h : k < n
    · obtain ⟨a, h1, h2⟩ := hs k h; exact ⟨a, fun _ => ⟨h1, h2⟩⟩
    · exact ⟨0, fun z => absurd z h⟩
  refine ⟨fun k => Classical.choose (hex k), fun k hk => ?_, pw_ls n 0 (fun i j _ hij hj => ?_), fun x => ?_⟩
  · have h := Classical.choose_spec (hex k) hk
    have := hB _ h.1
    rw [h.2] at this
    exact ⟨this, h.1⟩
  · have hi := Classical.choose_spec (hex i) (by omega)
    have hj := Classical.choose_spec (hex j) (by omega)
    show erW X (Classical.choose (hex i)) (Classical.choose (hex j)) = true
    have hne : Classical.choose (hex i) ≠ Classical.choose (hex j) := fun z => by rw [z, hj.2] at hi; omega
    cases h : erW X (Classical.choose (hex i)) (Classical.choose (hex j))
    · have h2 := erW_not (X := X) hne
      rw [h] at h2
      have h3 : erW X (Classical.choose (hex j)) (Classical.choose (hex i)) = true := by
        cases q : erW X (Classical.choose (hex j)) (Classical.choose (hex i))
        · rw [q] at h2; exact absurd h2 (by decide)
        · rfl
      have := rk_er (n := n) hj.1 h3
      omega
    · rfl
  · rw [mem_ls, Nat.testBit_two_pow_sub_one, decide_eq_true_eq]
    constructor
    · rintro ⟨j, _, h2, h3⟩
      have h := Classical.choose_spec (hex j) (by omega)
      have h3 : Classical.choose (hex j) = x := h3
      rw [h3] at h
      exact ⟨h.1, h.1⟩
    · rintro ⟨h1, _⟩
      have hr := rk_lt (X := X) h1
      refine ⟨rk n X x, by omega, by omega, ?_⟩
      have h := Classical.choose_spec (hex (rk n X x)) hr
      exact rk_inj h.1 h1 h.2
theorem SL.filter {s : Nat} {l : List Nat} (h : SL X n (2 ^ n - 1) l) : SL X n s (l.filter (fun q => s.testBit q)) := by
  refine ⟨h.1.filter _, fun x => ?_⟩
  rw [List.mem_filter, h.2, Nat.testBit_two_pow_sub_one, decide_eq_true_eq]
  constructor
  · rintro ⟨⟨a, _⟩, b⟩; exact ⟨a, b⟩
  · rintro ⟨a, b⟩; exact ⟨⟨a, a⟩, b⟩
theorem yr_le {a b : Nat} (h : erW X a b = true) : (X a).2.2.1 ≤ (X b).2.2.1 := by
  rw [erW_iff] at h
  rw [Int32.le_iff_toInt_le]
  omega
/-! what a ring had -/
def hadG (X : Nat → PV) (y : Int32) (acc : Int64) (p : Nat) : Int64 := if (X p).2.2.1 ≤ y then (if (X p).1 = 4 then shP (X p) else acc ||| shP (X p)) else acc
theorem had_out {y : Int32} : ∀ (l : List Nat) (acc : Int64), (∀ q, q ∈ l → ¬ (X q).2.2.1 ≤ y) → l.foldl (hadG X y) acc = acc := by
  intro l
  induction l with
  | nil => intro acc _; rfl
  | cons q l ih =>
    intro acc h
    rw [List.foldl_cons, show hadG X y acc q = acc from if_neg (h q List.mem_cons_self)]
    exact ih acc (fun x hx => h x (List.mem_cons_of_mem _ hx))
theorem had_12 {u : Mem} {c : Nat} {g : Nat → Nat} {y : Int32} (hX : CX u n X sl) (hc : c ≤ n) (hu : ∀ i, i < c → u.1 10 i = nI (g i)) (hg : ∀ i, i < c → g i < n) (hsort : ∀ i j, i < j → j < c → erW X (g i) (g j) = true) : ∀ m k i acc, i + k = c → k < m → F_X2_surelyHad_12 m u y (nI c) acc (nI i) = some ((ls g k i).foldl (hadG X y) acc, u) := by
  intro m
  induction m with
  | zero => intro k i acc _ h; exact absurd h (by omega)
  | succ m ih =>
    intro k i acc h1 hk
    have hn := hX.1
    unfold F_X2_surelyHad_12 F_X2_surelyHad_75 F_X2_surelyHad_59
    cases k with
    | zero => rw [if_pos (nI_le (by omega) (by omega))]; rfl
    | succ k =>
      have hgi := hg i (by omega)
      have px := (hX.2.2.2 (g i) hgi).1
      rw [if_neg (nI_ge (by omega) (by omega)), gd_nI _ (show i < 12 by omega) (by omega), cl_nI (show i < 12 by omega), hu i (by omega), gd_nI _ (show g i < 12 by omega) (by omega), cl_nI (show g i < 12 by omega), sh_C, bdL_s, bdL_s, px, nI_1, show u.1 (28 + g i) 2 = (X (g i)).2.2.1 by rw [← px]; rfl, show u.1 (28 + g i) 0 = (X (g i)).1 by rw [← px]; rfl, ih k (i + 1) _ (by omega) (by omega), ih k (i + 1) _ (by omega) (by omega), ls_s, List.foldl_cons, Int64.zero_or]
      unfold hadG
      by_cases h2 : (X (g i)).2.2.1 ≤ y
      · rw [if_pos h2, if_pos h2]
        by_cases h3 : (X (g i)).1 = 4
        · rw [if_pos h3, if_pos h3]
        · rw [if_neg h3, if_neg h3]
      · rw [if_neg h2, if_neg h2]
        have := had_out (X := X) (y := y) (ls g k (i + 1)) acc (fun q hq hle => by
          obtain ⟨j, a, b, e⟩ := (mem_ls k (i + 1)).mp hq
          rw [← e] at hle
          exact h2 (Int32.le_trans (yr_le (hsort i j (by omega) (by omega))) hle))
        unfold hadG at this
        rw [this]
theorem had_36 {v : Mem} {s : Nat} {b : Nat → Nat} {y : Int32} (hX : MX v n X sl) (hs2 : s < 4096) (hb : ∀ k, k < n → v.1 5 k = nI (b k) ∧ b k < n) : ∀ m k i acc, i + k = n → k < m → F_X7_had_36 m v (nI s) y acc (nI i) = some (((ls b k i).filter (fun q => s.testBit q)).foldl (hadG X y) acc, v) := by
  intro m
  induction m with
  | zero => intro k i acc _ h; exact absurd h (by omega)
  | succ m ih =>
    intro k i acc h1 hk
    have hn := hX.1
    unfold F_X7_had_36 F_X7_had_105 F_X7_had_104 F_X7_had_105
    rw [gd_c0, cl_0, hX.2.1]
    cases k with
    | zero => rw [if_pos (nI_le (by omega) (by omega))]; rfl
    | succ k =>
      obtain ⟨hbi, hbn⟩ := hb i (by omega)
      have px := hX.2.2.2 (b i) hbn
      have hb12 : b i < 12 := by omega
      rw [if_neg (nI_ge (by omega) (by omega)), gd_nI _ (show i < 12 by omega) (by omega), cl_nI (show i < 12 by omega), hbi, has_M hs2 hb12, bdI_s, its_M2 hb12, bdI_s, its_M0 hb12, bdI_s, sh_M hb12 (by rw [px.1]; exact px.2), bdL_s, bdL_s, px.1, nI_1, ih k (i + 1) _ (by omega) (by omega), ih k (i + 1) _ (by omega) (by omega), ih k (i + 1) _ (by omega) (by omega), ls_s]
      cases hsb : s.testBit (b i)
      · rw [if_pos (show bi false = 0 from rfl), List.filter_cons_of_neg (by rw [hsb]; decide)]
      · rw [if_neg (show ¬ bi true = 0 by decide), List.filter_cons_of_pos hsb, List.foldl_cons]
        by_cases h2 : (X (b i)).2.2.1 ≤ y
        · rw [if_neg (Int32.not_lt.mpr h2)]
          by_cases h3 : (X (b i)).1 = 4
          · rw [if_pos h3, show hadG X y acc (b i) = shP (X (b i)) by unfold hadG; rw [if_pos h2, if_pos h3]]
          · rw [if_neg h3, show hadG X y acc (b i) = acc ||| shP (X (b i)) by unfold hadG; rw [if_pos h2, if_neg h3]]
        · rw [if_pos (Int32.not_le.mp h2), show hadG X y acc (b i) = acc by unfold hadG; rw [if_neg h2]]
/-! what a ring had not -/
def hnG (X : Nat → PV) (y : Int32) (a : Int64 × Bool) (p : Nat) : Int64 × Bool := if (X p).2.2.1 < y then a else if a.2 = true ∧ ((X p).1 ≠ 4 ∨ (X p).2.2.1 = y) then (a.1 ||| baP (X p), true) else (a.1, false)
theorem hn_out {y : Int32} : ∀ (l : List Nat) (acc : Int64), l.foldl (hnG X y) (acc, false) = (acc, false) := by
  intro l
  induction l with
  | nil => intro acc; rfl
  | cons q l ih =>
    intro acc
    rw [List.foldl_cons, show hnG X y (acc, false) q = (acc, false) by
      unfold hnG
      by_cases h : (X q).2.2.1 < y
      · rw [if_pos h]
      · rw [if_neg h, if_neg (fun z => absurd z.1 Bool.false_ne_true)]]
    exact ih acc
theorem hn_12 {u : Mem} {c : Nat} {g : Nat → Nat} {y : Int32} (hX : CX u n X sl) (hc : c ≤ n) (hu : ∀ i, i < c → u.1 10 i = nI (g i)) (hg : ∀ i, i < c → g i < n) : ∀ m k i acc, i + k = c → k < m → F_X2_surelyHadNot_12 m u y (nI c) acc (nI i) = some (((ls g k i).foldl (hnG X y) (acc, true)).1, u) := by
  intro m
  induction m with
  | zero => intro k i acc _ h; exact absurd h (by omega)
  | succ m ih =>
    intro k i acc h1 hk
    have hn := hX.1
    unfold F_X2_surelyHadNot_12 F_X2_surelyHadNot_81 F_X2_surelyHadNot_56 F_X2_surelyHadNot_75
    cases k with
    | zero => rw [if_pos (nI_le (by omega) (by omega))]; rfl
    | succ k =>
      have hgi := hg i (by omega)
      have px := (hX.2.2.2 (g i) hgi).1
      rw [if_neg (nI_ge (by omega) (by omega)), gd_nI _ (show i < 12 by omega) (by omega), cl_nI (show i < 12 by omega), hu i (by omega), gd_nI _ (show g i < 12 by omega) (by omega), cl_nI (show g i < 12 by omega), ba_C, bdL_s, px, nI_1, show u.1 (28 + g i) 2 = (X (g i)).2.2.1 by rw [← px]; rfl, show u.1 (28 + g i) 0 = (X (g i)).1 by rw [← px]; rfl, ih k (i + 1) _ (by omega) (by omega), ih k (i + 1) _ (by omega) (by omega), ls_s, List.foldl_cons]
      by_cases h2 : (X (g i)).2.2.1 ≤ y
      · rw [if_pos h2]
        by_cases h3 : (X (g i)).2.2.1 < y
        · rw [if_pos h3, show hnG X y (acc, true) (g i) = (acc, true) by unfold hnG; rw [if_pos h3]]
        · have e : (X (g i)).2.2.1 = y := Int32.le_antisymm h2 (Int32.not_lt.mp h3)
          rw [if_neg h3, show hnG X y (acc, true) (g i) = (acc ||| baP (X (g i)), true) by unfold hnG; rw [if_neg h3, if_pos ⟨rfl, Or.inr e⟩]]
      · have h3 : ¬ (X (g i)).2.2.1 < y := fun z => h2 (Int32.le_of_lt z)
        have h4 : ¬ (X (g i)).2.2.1 = y := fun z => h2 (by rw [z]; exact Int32.le_refl _)
        rw [if_neg h2]
        by_cases h5 : (X (g i)).1 = 4
        · rw [if_pos h5, show hnG X y (acc, true) (g i) = (acc, false) by unfold hnG; rw [if_neg h3, if_neg (fun z => z.2.elim (fun a => a h5) h4)], hn_out]
        · rw [if_neg h5, if_neg h3, show hnG X y (acc, true) (g i) = (acc ||| baP (X (g i)), true) by unfold hnG; rw [if_neg h3, if_pos ⟨rfl, Or.inl h5⟩]]
theorem ba_M {x : PV} (h : okP x) : (1099511627775 : Int64) &&& ((shP x ||| hdP x) ^^^ -1) = baP x := by
  apply b6_ext
  intro i hi
  unfold baP
  simp only [b6_and, b6_n hi, b6_or]
  unfold shP
  simp only [b6_and, b6_n hi]
  cases e1 : b6 x.2.2.2.2 i <;> cases e2 : b6 (hdP x) i <;> simp_all
theorem hn_39 {v : Mem} {s : Nat} {b : Nat → Nat} {y : Int32} (hX : MX v n X sl) (hs2 : s < 4096) (hb : ∀ k, k < n → v.1 5 k = nI (b k) ∧ b k < n) : ∀ m k i acc z, i + k = n → k < m → F_X7_hadNot_39 m v (nI s) y acc (bi z) (nI i) = some ((((ls b k i).filter (fun q => s.testBit q)).foldl (hnG X y) (acc, z)).1, v) := by
  intro m
  induction m with
  | zero => intro k i acc z _ h; exact absurd h (by omega)
  | succ m ih =>
    intro k i acc z h1 hk
    have hn := hX.1
    unfold F_X7_hadNot_39 F_X7_hadNot_146 F_X7_hadNot_110 F_X7_hadNot_106 F_X7_hadNot_111 F_X7_hadNot_144 F_X7_hadNot_146
    rw [gd_c0, cl_0, hX.2.1]
    cases k with
    | zero => rw [if_pos (nI_le (by omega) (by omega))]; rfl
    | succ k =>
      obtain ⟨hbi, hbn⟩ := hb i (by omega)
      have px := hX.2.2.2 (b i) hbn
      have hb12 : b i < 12 := by omega
      have I := fun acc z => ih k (i + 1) acc z (by omega) (by omega)
      have I1 := fun acc => I acc true
      have I0 := fun acc => I acc false
      rw [show bi true = (1 : Int32) from rfl] at I1
      rw [show bi false = (0 : Int32) from rfl] at I0
      rw [if_neg (nI_ge (by omega) (by omega)), gd_nI _ (show i < 12 by omega) (by omega), cl_nI (show i < 12 by omega), hbi, has_M hs2 hb12, bdI_s, ls_s]
      have po : okP (vM v 1 2 (b i)) := by rw [px.1]; exact px.2
      simp only [its_M2 hb12, its_M0 hb12, bdI_s, bdL_s, sh_M hb12 po, hd_M hb12 po, ba_M po, nI_1, ite00, ite10, l_or0, I0, I1, I, if_true]
      rw [px.1]
      cases hsb : s.testBit (b i)
      · rw [if_pos (show bi false = 0 from rfl), List.filter_cons_of_neg (by rw [hsb]; decide)]
      · rw [if_neg (show ¬ bi true = 0 by decide), List.filter_cons_of_pos hsb, List.foldl_cons]
        by_cases h3 : (X (b i)).2.2.1 < y
        · rw [if_pos h3, show hnG X y (acc, z) (b i) = (acc, z) by unfold hnG; rw [if_pos h3]]
        · rw [if_neg h3]
          cases z
          · rw [if_pos (show bi false = 0 from rfl), show hnG X y (acc, false) (b i) = (acc, false) by unfold hnG; rw [if_neg h3, if_neg (fun z => absurd z.1 Bool.false_ne_true)]]
          · rw [if_neg (show ¬ bi true = 0 by decide)]
            by_cases h5 : (X (b i)).1 = 4
            · rw [if_pos h5]
              by_cases h4 : (X (b i)).2.2.1 = y
              · rw [if_pos h4, show hnG X y (acc, true) (b i) = (acc ||| baP (X (b i)), true) by unfold hnG; rw [if_neg h3, if_pos ⟨rfl, Or.inr h4⟩]]
              · rw [if_neg h4, show hnG X y (acc, true) (b i) = (acc, false) by unfold hnG; rw [if_neg h3, if_neg (fun z => z.2.elim (fun a => a h5) h4)]]
            · rw [if_neg h5, show hnG X y (acc, true) (b i) = (acc ||| baP (X (b i)), true) by unfold hnG; rw [if_neg h3, if_pos ⟨rfl, Or.inl h5⟩]]
end
theorem ST22 : ST_22 Rel := by
  intro u v x1 x2 hR
  obtain ⟨n, hA⟩ := hR.1
  obtain ⟨hX, hY⟩ := hA.X
  have hn := hX.1
  rcases set_cases hX.2.1 hY.2.1 hX.1 x1 with ⟨c, m⟩ | ⟨s, hs, hs2, rfl, c, m⟩
  · exact ⟨_, tC u 0, tM v 0, by unfold F_X6_had F_X6_had_18; rw [c]; rfl, by unfold F_X7_had F_X7_had_19; rw [m]; rfl, hR.fd 0 (by omega)⟩
  rcases yr_cases x2 with hw | ⟨y, hy, rfl, hw⟩
  · exact ⟨_, tC u 0, tM v 0, by unfold F_X6_had F_X6_had_18; rw [c, bdI_s, ite10, (hw u v).1]; rfl, by unfold F_X7_had F_X7_had_19; rw [m, bdI_s, ite10, (hw u v).2]; rfl, hR.fd 0 (by omega)⟩
  obtain ⟨cn, g, u1, e1, w1, h1, h2, h3, h4, h5⟩ := row_C hX hs2
  obtain ⟨v1, f1, w2, -, b1⟩ := findCan_M hY
  obtain ⟨b, hb, hbs⟩ := byy_L b1
  have e := h5.uq (hbs.filter (s := s))
  have a1 := had_12 (y := nI y) (w1.X hX) h1 h2 h3 h4 fu cn 0 0 (by omega) (by unfold fu; omega)
  have a2 := had_36 (y := nI y) (w2.mx hY) hs2 hb fu n 0 0 (by omega) (by unfold fu; omega)
  rw [e] at a1
  have z : nI 0 = (0 : Int32) := rfl
  rw [z] at a1 a2
  refine ⟨((ls b n 0).filter (fun q => s.testBit q)).foldl (hadG (vM v 1 2) (nI y)) 0, u1, v1, ?_, ?_, hR.frame w1.ok w2.ok⟩
  · unfold F_X6_had F_X2_surelyHad
    rw [c, bdI_s, ite10, (hw u v).1, bdI_s, ite10, e1, bdI_s, a1, bdL_s]
  · unfold F_X7_had
    rw [m, bdI_s, ite10, (hw u v).2, bdI_s, ite10, f1, bdV_s]
    exact a2
theorem ST23 : ST_23 Rel := by
  intro u v x1 x2 hR
  obtain ⟨n, hA⟩ := hR.1
  obtain ⟨hX, hY⟩ := hA.X
  have hn := hX.1
  rcases set_cases hX.2.1 hY.2.1 hX.1 x1 with ⟨c, m⟩ | ⟨s, hs, hs2, rfl, c, m⟩
  · exact ⟨_, tC u 0, tM v 0, by unfold F_X6_hadNot F_X6_hadNot_18; rw [c]; rfl, by unfold F_X7_hadNot F_X7_hadNot_19; rw [m]; rfl, hR.fd 0 (by omega)⟩
  rcases yr_cases x2 with hw | ⟨y, hy, rfl, hw⟩
  · exact ⟨_, tC u 0, tM v 0, by unfold F_X6_hadNot F_X6_hadNot_18; rw [c, bdI_s, ite10, (hw u v).1]; rfl, by unfold F_X7_hadNot F_X7_hadNot_19; rw [m, bdI_s, ite10, (hw u v).2]; rfl, hR.fd 0 (by omega)⟩
  obtain ⟨cn, g, u1, e1, w1, h1, h2, h3, h4, h5⟩ := row_C hX hs2
  obtain ⟨v1, f1, w2, -, b1⟩ := findCan_M hY
  obtain ⟨b, hb, hbs⟩ := byy_L b1
  have e := h5.uq (hbs.filter (s := s))
  have a1 := hn_12 (y := nI y) (w1.X hX) h1 h2 h3 fu cn 0 0 (by omega) (by unfold fu; omega)
  have a2 := hn_39 (y := nI y) (w2.mx hY) hs2 hb fu n 0 0 true (by omega) (by unfold fu; omega)
  rw [e] at a1
  have z : nI 0 = (0 : Int32) := rfl
  rw [z] at a1 a2
  refine ⟨(((ls b n 0).filter (fun q => s.testBit q)).foldl (hnG (vM v 1 2) (nI y)) (0, true)).1, u1, v1, ?_, ?_, hR.frame w1.ok w2.ok⟩
  · unfold F_X6_hadNot F_X2_surelyHadNot
    rw [c, bdI_s, ite10, (hw u v).1, bdI_s, ite10, e1, bdI_s, a1, bdL_s]
  · unfold F_X7_hadNot
    rw [m, bdI_s, ite10, (hw u v).2, bdI_s, ite10, f1, bdV_s]
    exact a2
