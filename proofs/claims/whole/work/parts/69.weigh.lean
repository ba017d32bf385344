/-! PURE: weighing, who can be of one ring -/
def Dn (b a : Nat) (f : Nat → Nat → Bool) (p q : Nat) : Bool := decide (p ≠ q ∧ (max p q < b ∨ (max p q = b ∧ min p q < a))) && f p q
def EF (n : Nat) (f : Nat → Nat → Bool) (p q : Nat) : Bool := decide (p ≠ q ∧ p < n ∧ q < n) && f p q
theorem wg_2 : ∀ (m k i : Nat) (u : Mem), i + k = 12 → k < m → (∀ p, p < i → u.1 8 p = 0 ∧ u.1 9 p = 0) → ∃ u', F_X2_weigh_2 m u (nI i) = F_X2_weigh_30 fu u' 1 ∧ W89 u u' ∧ ∀ p, p < 12 → u'.1 8 p = 0 ∧ u'.1 9 p = 0 := by
  intro m
  induction m with
  | zero => intro k i u _ h; exact absurd h (by omega)
  | succ m ih =>
    intro k i u h1 hk h0
    unfold F_X2_weigh_2
    cases k with
    | zero => exact ⟨u, by rw [if_pos (show (12 : Int32) ≤ nI i from nI_le (a := 12) (by omega) (by omega))], W89.rf u, fun p hp => h0 p (by omega)⟩
    | succ k =>
      rw [if_neg (show ¬ (12 : Int32) ≤ nI i from nI_ge (b := 12) (by omega) (by omega)), gd_nI _ (show i < 12 by omega) (by omega), gd_nI _ (show i < 12 by omega) (by omega), bdV_s, cl_nI (show i < 12 by omega), nI_1]
      obtain ⟨u', e, w, z⟩ := ih k (i + 1) (sI (sI u 8 i 0) 9 i 0) (by omega) (by omega) (fun p hp => by
        by_cases e : p = i
        · subst e; exact ⟨by rw [sI_i (by decide), sI_eq], sI_eq⟩
        · exact ⟨by rw [sI_i (by decide), sI_k e]; exact (h0 p (by omega)).1, by rw [sI_k e, sI_i (by decide)]; exact (h0 p (by omega)).2⟩)
      exact ⟨u', e, W89.tr (u2 := sI (sI u 8 i 0) 9 i 0) ⟨rfl, fun c h8 h9 => funext fun j => by rw [sI_i h9, sI_i h8]⟩ w, z⟩
section
variable {n : Nat} {X : Nat → PV} {sl : Int32}
theorem wg_43 {b : Nat} (hb : b < n) (k30 : Mem → Int32 → Option Mem) : ∀ (m k a : Nat) (u : Mem), a + k = b → k < m → CX u n X sl → LM u (Dn b a (cnW X sl)) (Dn b a (onW X sl)) → ∃ u', F_X2_weigh_43 k30 m u (nI b) (nI a) = k30 u' (nI (b + 1)) ∧ W89 u u' ∧ LM u' (Dn (b + 1) 0 (cnW X sl)) (Dn (b + 1) 0 (onW X sl)) := by
  intro m
  induction m with
  | zero => intro k a u _ h; exact absurd h (by omega)
  | succ m ih =>
    intro k a u h1 hk hX hL
    have hn := hX.1
    unfold F_X2_weigh_43
    cases k with
    | zero =>
      refine ⟨u, by rw [if_pos (nI_le (by omega) (by omega)), nI_1], W89.rf u, hL.congr (fun p q _ _ => ?_) (fun p q _ _ => ?_)⟩
      · exact congrArg (· && cnW X sl p q) (decide_eq_decide.mpr (by omega))
      · exact congrArg (· && onW X sl p q) (decide_eq_decide.mpr (by omega))
    | succ k =>
      rw [if_neg (nI_ge (by omega) (by omega))]
      obtain ⟨u1, e1, w1, l1⟩ := wp_C hX hL (show a < n by omega) hb
      rw [e1, bdV_s, nI_1]
      obtain ⟨u', e, w, l⟩ := ih k (a + 1) u1 (by omega) (by omega) (w1.X hX) (l1.congr (fun p q _ _ => by
        unfold updF
        by_cases h1 : p = b ∧ q = a
        · rw [if_pos h1, h1.1, h1.2]; unfold Dn; rw [decide_eq_true (by omega)]; rfl
        · rw [if_neg h1]
          by_cases h2 : p = a ∧ q = b
          · rw [if_pos h2, h2.1, h2.2]; unfold Dn; rw [decide_eq_true (by omega)]; rfl
          · rw [if_neg h2]; exact congrArg (· && cnW X sl p q) (decide_eq_decide.mpr (by omega))) (fun p q _ _ => by
        unfold updF
        by_cases h1 : p = b ∧ q = a
        · rw [if_pos h1, h1.1, h1.2, onW_sym (by omega)]; unfold Dn; rw [decide_eq_true (by omega)]; rfl
        · rw [if_neg h1]
          by_cases h2 : p = a ∧ q = b
          · rw [if_pos h2, h2.1, h2.2]; unfold Dn; rw [decide_eq_true (by omega)]; rfl
          · rw [if_neg h2]; exact congrArg (· && onW X sl p q) (decide_eq_decide.mpr (by omega))))
      exact ⟨u', e, w1.tr w, l⟩
theorem wg_30 : ∀ (m b : Nat) (u : Mem), 1 ≤ b → b ≤ 12 → n - b < m → CX u n X sl → LM u (Dn b 0 (cnW X sl)) (Dn b 0 (onW X sl)) → ∃ u', F_X2_weigh_30 m u (nI b) = some u' ∧ W89 u u' ∧ (b ≤ n ∨ b = 1 → LM u' (EF n (cnW X sl)) (EF n (onW X sl))) := by
  intro m
  induction m with
  | zero => intro b u _ _ h; exact absurd h (by omega)
  | succ m ih =>
    intro b u h1 h12 hk hX hL
    have hn := hX.1
    unfold F_X2_weigh_30
    rw [hX.2.1]
    by_cases hb : n ≤ b
    · refine ⟨u, by rw [if_pos (nI_le hb (by omega))], W89.rf u, fun hh => hL.congr (fun p q _ _ => ?_) (fun p q _ _ => ?_)⟩
      · exact congrArg (· && cnW X sl p q) (decide_eq_decide.mpr (by omega))
      · exact congrArg (· && onW X sl p q) (decide_eq_decide.mpr (by omega))
    · rw [if_neg (nI_ge (by omega) (by omega))]
      obtain ⟨u1, e1, w1, l1⟩ := wg_43 (show b < n by omega) (F_X2_weigh_30 m) fu b 0 u (by omega) (by unfold fu; omega) hX hL
      have z : nI 0 = (0 : Int32) := rfl
      rw [z] at e1
      obtain ⟨u', e, w, l⟩ := ih (b + 1) u1 (by omega) (by omega) (by omega) (w1.X hX) l1
      exact ⟨u', e1.trans e, w1.tr w, fun _ => l (Or.inl (by omega))⟩
theorem weigh_C {u : Mem} (hX : CX u n X sl) : ∃ u', F_X2_weigh u = some u' ∧ W89 u u' ∧ LM u' (EF n (cnW X sl)) (EF n (onW X sl)) := by
  obtain ⟨u1, e1, w1, z1⟩ := wg_2 fu 12 0 u (by omega) (by unfold fu; omega) (fun p hp => absurd hp (by omega))
  have hn := hX.1
  have z : ∀ p, p < 12 → u1.1 8 p = nI 0 ∧ u1.1 9 p = nI 0 := z1
  obtain ⟨u2, e2, w2, l2⟩ := wg_30 (n := n) (X := X) (sl := sl) fu 1 u1 (by omega) (by omega) (by unfold fu; omega) (w1.X hX) (fun p hp => ⟨⟨0, by omega, (z p hp).1, fun q _ => by rw [Nat.zero_testBit]; unfold Dn; rw [decide_eq_false (by omega)]; rfl⟩, ⟨0, by omega, (z p hp).2, fun q _ => by rw [Nat.zero_testBit]; unfold Dn; rw [decide_eq_false (by omega)]; rfl⟩⟩)
  exact ⟨u2, e1.trans e2, w1.tr w2, l2 (Or.inr rfl)⟩
/-! the reference finds who can -/
def ct (f : Nat → Bool) : Nat → Nat
  | 0 => 0
  | k + 1 => ct f k + (if f k then 1 else 0)
theorem ct_s (f : Nat → Bool) (k : Nat) : ct f (k + 1) = ct f k + (if f k then 1 else 0) := rfl
theorem ct_le (f : Nat → Bool) : ∀ k, ct f k ≤ k := by
  intro k
  induction k with
  | zero => exact Nat.le_refl 0
  | succ k ih => rw [ct_s]; split <;> omega
theorem ct_lt {f : Nat → Bool} {a : Nat} (h : f a = false) : ∀ k, a < k → ct f k < k := by
  intro k
  induction k with
  | zero => intro h; omega
  | succ k ih =>
    intro hk
    rw [ct_s]
    by_cases e : a = k
    · subst e
      have := ct_le f a
      rw [h]
      show ct f a + 0 < a + 1
      omega
    · have := ih (by omega)
      split <;> omega
theorem ct_mono {f g : Nat → Bool} : ∀ k, (∀ b, b < k → f b = true → g b = true) → ct f k ≤ ct g k := by
  intro k
  induction k with
  | zero => intro _; exact Nat.le_refl 0
  | succ k ih =>
    intro h
    have := ih (fun b hb => h b (by omega))
    rw [ct_s, ct_s]
    cases e : f k
    · rw [if_neg (show ¬ false = true by decide)]; split <;> omega
    · rw [h k (by omega) e]; omega
theorem ct_smono {f g : Nat → Bool} {c : Nat} (hf : f c = false) (hg : g c = true) : ∀ k, c < k → (∀ b, b < k → f b = true → g b = true) → ct f k < ct g k := by
  intro k
  induction k with
  | zero => intro h; omega
  | succ k ih =>
    intro hk h
    rw [ct_s, ct_s]
    by_cases e : c = k
    · subst e
      have := ct_mono c (fun b hb => h b (by omega))
      rw [hf, hg, if_neg (show ¬ false = true by decide), if_pos rfl]
      omega
    · have := ih (by omega) (fun b hb => h b (by omega))
      cases e : f k
      · rw [if_neg (show ¬ false = true by decide)]; split <;> omega
      · rw [h k (by omega) e]; omega
def rk (n : Nat) (X : Nat → PV) (a : Nat) : Nat := ct (fun b => erW X b a) n
theorem rk_lt {a : Nat} (ha : a < n) : rk n X a < n := ct_lt (f := fun b => erW X b a) (a := a) (show erW X a a = false from erW_ir) n ha
theorem rk_er {a b : Nat} (ha : a < n) (h : erW X a b = true) : rk n X a < rk n X b := ct_smono (f := fun c => erW X c a) (g := fun c => erW X c b) (c := a) (show erW X a a = false from erW_ir) (show erW X a b = true from h) n ha (fun c _ hc => show erW X c b = true from erW_tr (show erW X c a = true from hc) h)
theorem rk_inj {a b : Nat} (ha : a < n) (hb : b < n) (h : rk n X a = rk n X b) : a = b := by
  by_cases e : a = b
  · exact e
  · cases g : erW X a b
    · have g2 : erW X b a = true := by
        have := erW_not (X := X) e
        rw [g] at this
        cases q : erW X b a
        · rw [q] at this; exact absurd this (by decide)
        · rfl
      have := rk_er (n := n) hb g2
      omega
    · have := rk_er (n := n) ha g
      omega
def W45 (v v2 : Mem) : Prop := v2.2 = v.2 ∧ ∀ c, c ≠ 4 → c ≠ 5 → v2.1 c = v.1 c
theorem W45.rf (v : Mem) : W45 v v := ⟨rfl, fun _ _ _ => rfl⟩
theorem W45.tr {u u2 u3 : Mem} (h : W45 u u2) (g : W45 u2 u3) : W45 u u3 := ⟨g.1.trans h.1, fun c a b => (g.2 c a b).trans (h.2 c a b)⟩
theorem W45.ok {v v2 : Mem} (h : W45 v v2) : okM v v2 := ⟨fun i hi => ⟨h.2 i (by omega) (by omega), by rw [h.1]⟩, by rw [h.2 0 (by decide) (by decide)], by rw [h.2 0 (by decide) (by decide)]⟩
theorem MX.fr {v v2 : Mem} (g : MX v n X sl) (h2 : v2.2 2 = v.2 2) (h1 : v2.1 1 = v.1 1) : MX v2 n X sl := by
  refine ⟨g.1, by rw [h1]; exact g.2.1, by rw [h1]; exact g.2.2.1, fun p hp => ?_⟩
  have e : vM v2 1 2 p = vM v 1 2 p := by unfold vM; rw [h1, h2]
  rw [e]
  exact g.2.2.2 p hp
theorem W45.mx {v v2 : Mem} (h : W45 v v2) (g : MX v n X sl) : MX v2 n X sl := g.fr (by rw [h.1]) (h.2 1 (by decide) (by decide))
theorem nar_b (b : Bool) : vp_nar .boolean (bi b) = bi b := by cases b <;> decide
theorem ix12 {a b : Nat} : (12 : Int32) * nI a + nI b = nI (12 * a + b) := by rw [show (12 : Int32) = nI 12 from rfl, pk_mul, nI_add]
theorem fc_16 {a : Nat} (ha : a < n) (k2 : Mem → Int32 → Option Mem) : ∀ (m j b : Nat) (v : Mem), b + j = n → j < m → MX v n X sl → ∃ v', F_X7_findCan_16 k2 m v (nI a) (nI (ct (fun c => erW X c a) b)) (nI b) = k2 (sI v' 5 (rk n X a) (nI a)) (nI (a + 1)) ∧ W45 v v' ∧ v'.1 5 = v.1 5 ∧ (∀ k, (k < 12 * a + b ∨ 12 * a + n ≤ k) → v'.1 4 k = v.1 4 k) ∧ ∀ c, b ≤ c → c < n → v'.1 4 (12 * a + c) = bi (decide (a ≠ c) && cnW X sl a c) := by
  intro m
  induction m with
  | zero => intro j b v _ h; exact absurd h (by omega)
  | succ m ih =>
    intro j b v h1 hj hX
    have hn := hX.1
    unfold F_X7_findCan_16
    rw [gd_c0, cl_0, hX.2.1]
    cases j with
    | zero =>
      refine ⟨v, ?_, W45.rf v, rfl, fun _ _ => rfl, fun c h2 h3 => absurd h3 (by omega)⟩
      have e : b = n := by omega
      subst e
      have hr := rk_lt (X := X) ha
      unfold rk at hr
      rw [if_pos (nI_le (Nat.le_refl b) (by omega)), gd_nI _ (show ct (fun c => erW X c a) b < 12 by omega) (by omega), cl_nI (show ct (fun c => erW X c a) b < 12 by omega), nI_1]
      rfl
    | succ j =>
      have hb : b < n := by omega
      have ha2 : a < 12 := by omega
      have hb2 : b < 12 := by omega
      rw [if_neg (nI_ge hb (by omega))]
      have key : ∀ z : Bool, F_X7_findCan_55 (F_X7_findCan_16 k2 m) v (nI a) (nI (ct (fun c => erW X c a) b)) (nI b) (nI (12 * a + b)) (bi z) = F_X7_findCan_16 k2 m (sI v 4 (12 * a + b) (bi z)) (nI a) (nI (ct (fun c => erW X c a) (b + 1))) (nI (b + 1)) := by
        intro z
        have hX2 : MX (sI v 4 (12 * a + b) (bi z)) n X sl := hX.fr rfl (funext fun j => sI_i (by decide))
        unfold F_X7_findCan_55 F_X7_findCan_75 F_X7_findCan_76
        rw [gd_nI _ (show 12 * a + b < 144 by omega) (by omega), nI_clamp (show 12 * a + b < 2 ^ 31 by omega), nar_b, ct_s, nI_1]
        by_cases e : b = a
        · subst e
          rw [if_pos rfl, erW_ir, if_neg (show ¬ false = true by decide), Int32.add_zero]; rfl
        · rw [if_neg (fun h => e ((nI_eq (by omega) (by omega)).mp h)), er_M hb2 ha2, bdI_s, (hX2.2.2.2 b hb).1, (hX2.2.2.2 a ha).1]
          show (if bi (erW X b a) = 0 then _ else _) = _
          cases erW X b a
          · rw [if_pos (show bi false = 0 from rfl), if_neg (show ¬ false = true by decide), Int32.add_zero]; rfl
          · rw [if_neg (show ¬ bi true = 0 by decide), if_pos (show true = true from rfl), nI_1]
      have fin : ∀ z : Bool, z = (decide (a ≠ b) && cnW X sl a b) → ∃ v', F_X7_findCan_16 k2 m (sI v 4 (12 * a + b) (bi z)) (nI a) (nI (ct (fun c => erW X c a) (b + 1))) (nI (b + 1)) = k2 (sI v' 5 (rk n X a) (nI a)) (nI (a + 1)) ∧ W45 v v' ∧ v'.1 5 = v.1 5 ∧ (∀ k, (k < 12 * a + b ∨ 12 * a + n ≤ k) → v'.1 4 k = v.1 4 k) ∧ ∀ c, b ≤ c → c < n → v'.1 4 (12 * a + c) = bi (decide (a ≠ c) && cnW X sl a c) := by
        intro z hz
        obtain ⟨v', e1, e2, e3, e4, e5⟩ := ih j (b + 1) (sI v 4 (12 * a + b) (bi z)) (by omega) (by omega) (hX.fr rfl (funext fun j => sI_i (by decide)))
        refine ⟨v', e1, W45.tr (u2 := sI v 4 (12 * a + b) (bi z)) ⟨rfl, fun c h4 _ => funext fun j => sI_i h4⟩ e2, e3.trans (funext fun j => sI_i (by decide)), fun k hk => by rw [e4 k (by omega), sI_k (by omega)], fun c h2 h3 => ?_⟩
        by_cases e : c = b
        · subst e; rw [e4 _ (by omega), sI_eq, hz]
        · exact e5 c (by omega) h3
      unfold F_X7_findCan_54
      rw [ix12]
      by_cases e : a = b
      · rw [if_pos (congrArg nI e)]
        have k0 := key false
        rw [show bi false = 0 from rfl] at k0
        rw [k0]
        exact fin false (by rw [decide_eq_false (fun h => h e)]; rfl)
      · rw [if_neg (fun h => e ((nI_eq (by omega) (by omega)).mp h)), canM ha2 hb2 (by rw [(hX.2.2.2 a ha).1]; exact (hX.2.2.2 a ha).2) (by rw [(hX.2.2.2 b hb).1]; exact (hX.2.2.2 b hb).2), bdI_s, (hX.2.2.2 b hb).1, (hX.2.2.2 a ha).1, hX.2.2.1]
        show ∃ v', (if bi (cnW X sl a b) = 0 then _ else _) = _ ∧ _
        cases h : cnW X sl a b
        · rw [if_pos (show bi false = 0 from rfl)]
          have k0 := key false
          rw [show bi false = 0 from rfl] at k0
          rw [k0]
          exact fin false (by rw [h, Bool.and_false])
        · rw [if_neg (show ¬ bi true = 0 by decide)]
          have k0 := key true
          rw [show bi true = 1 from rfl] at k0
          rw [k0]
          exact fin true (by rw [h, decide_eq_true e]; rfl)
def CAN (v : Mem) (n : Nat) (X : Nat → PV) (sl : Int32) : Prop := ∀ a b, a < n → b < n → v.1 4 (12 * a + b) = bi (decide (a ≠ b) && cnW X sl a b)
def BYY (v : Mem) (n : Nat) (X : Nat → PV) : Prop := ∀ a, a < n → v.1 5 (rk n X a) = nI a
theorem fc_2 : ∀ (m j a : Nat) (v : Mem), a + j = n → j < m → MX v n X sl → (∀ a' b, a' < a → b < n → v.1 4 (12 * a' + b) = bi (decide (a' ≠ b) && cnW X sl a' b)) → (∀ a', a' < a → v.1 5 (rk n X a') = nI a') → ∃ v', F_X7_findCan_2 m v (nI a) = some v' ∧ W45 v v' ∧ CAN v' n X sl ∧ BYY v' n X := by
  intro m
  induction m with
  | zero => intro j b v _ h; exact absurd h (by omega)
  | succ m ih =>
    intro j a v h1 hj hX hC hB
    have hn := hX.1
    unfold F_X7_findCan_2
    rw [gd_c0, cl_0, hX.2.1]
    cases j with
    | zero => exact ⟨v, by rw [if_pos (nI_le (by omega) (by omega))], W45.rf v, fun a' b ha hb => hC a' b (by omega) hb, fun a' ha => hB a' (by omega)⟩
    | succ j =>
      rw [if_neg (nI_ge (by omega) (by omega))]
      obtain ⟨v1, e1, w1, e2, e3, e4⟩ := fc_16 (n := n) (X := X) (sl := sl) (show a < n by omega) (F_X7_findCan_2 m) fu n 0 v (by omega) (by unfold fu; omega) hX
      have z : nI 0 = (0 : Int32) := rfl
      rw [show nI (ct (fun c => erW X c a) 0) = (0 : Int32) from rfl, z] at e1
      have w2 : W45 v (sI v1 5 (rk n X a) (nI a)) := w1.tr ⟨rfl, fun c _ h5 => funext fun j => sI_i h5⟩
      obtain ⟨v', f1, f2, f3, f4⟩ := ih j (a + 1) (sI v1 5 (rk n X a) (nI a)) (by omega) (by omega) (w2.mx hX) (fun a' b ha hb => by
        rw [sI_i (by decide)]
        by_cases e : a' = a
        · subst e; exact e4 b (by omega) hb
        · rw [e3 _ (by omega)]; exact hC a' b (by omega) hb) (fun a' ha => by
        by_cases e : a' = a
        · subst e; exact sI_eq
        · rw [sI_k (fun h => e (rk_inj (n := n) (X := X) (by omega) (by omega) h)), e2]; exact hB a' (by omega))
      exact ⟨v', e1.trans f1, w2.tr f2, f3, f4⟩
theorem findCan_M {v : Mem} (hX : MX v n X sl) : ∃ v', F_X7_findCan v = some v' ∧ W45 v v' ∧ CAN v' n X sl ∧ BYY v' n X := by
  have hn := hX.1
  exact fc_2 fu n 0 v (by omega) (by unfold fu; omega) hX (fun _ _ h => absurd h (by omega)) (fun _ h => absurd h (by omega))
theorem one_M {v : Mem} {p q : Nat} (hX : MX v n X sl) (hC : CAN v n X sl) (hp : p < n) (hq : q < n) (hne : p ≠ q) : F_X7_areOfOne v (nI p) (nI q) = some (bi (onW X sl p q), v) := by
  have hn := hX.1
  unfold F_X7_areOfOne F_X7_areOfOne_34 onW
  rw [er_M (show p < 12 by omega) (show q < 12 by omega), bdI_s, (hX.2.2.2 p hp).1, (hX.2.2.2 q hq).1, ix12, ix12, gd_nI _ (show 12 * q + p < 144 by omega) (by omega), gd_nI _ (show 12 * p + q < 144 by omega) (by omega), nI_clamp (show 12 * q + p < 2 ^ 31 by omega), nI_clamp (show 12 * p + q < 2 ^ 31 by omega), hC p q hp hq, hC q p hq hp, gz_bi, gz_bi, decide_eq_true hne, decide_eq_true hne.symm, Bool.true_and, Bool.true_and]
  show (if bi (erW X p q) = 0 then _ else _) = _
  cases erW X p q
  · rw [if_pos (show bi false = 0 from rfl), if_neg (show ¬ false = true by decide)]
  · rw [if_neg (show ¬ bi true = 0 by decide), if_pos (show true = true from rfl)]
end
