/-! PURE: in how many orders -/
def su (g : Nat → Nat) : Nat → Nat
  | 0 => 0
  | k + 1 => su g k + g k
theorem su_s (g : Nat → Nat) (k : Nat) : su g (k + 1) = su g k + g k := rfl
theorem su_congr {g h : Nat → Nat} : ∀ k, (∀ i, i < k → g i = h i) → su g k = su h k := by
  intro k
  induction k with
  | zero => intro _; rfl
  | succ k ih => intro e; rw [su_s, su_s, e k (by omega), ih (fun i hi => e i (by omega))]
theorem su_le {g : Nat → Nat} {B : Nat} : ∀ k, (∀ i, i < k → g i ≤ B) → su g k ≤ k * B := by
  intro k
  induction k with
  | zero => intro _; exact Nat.zero_le _
  | succ k ih =>
    intro e
    have h1 := ih (fun i hi => e i (by omega))
    have h2 := e k (by omega)
    rw [su_s, Nat.succ_mul]
    omega
theorem su_pos {g : Nat → Nat} : ∀ k, 0 < su g k ↔ ∃ p, p < k ∧ 0 < g p := by
  intro k
  induction k with
  | zero => exact ⟨fun h => absurd h (by show ¬ 0 < 0; omega), fun ⟨p, h, _⟩ => absurd h (by omega)⟩
  | succ k ih =>
    rw [su_s]
    constructor
    · intro h
      by_cases e : 0 < g k
      · exact ⟨k, by omega, e⟩
      · obtain ⟨p, h1, h2⟩ := ih.mp (by omega)
        exact ⟨p, by omega, h2⟩
    · rintro ⟨p, h1, h2⟩
      by_cases e : p = k
      · subst e; omega
      · have := ih.mpr ⟨p, by omega, h2⟩; omega
def LD (cn : Nat → Nat → Bool) (n p t : Nat) : Bool := al (fun q => !t.testBit q || (decide (p ≠ q) && cn p q)) n
theorem LD_iff {cn : Nat → Nat → Bool} {n p t : Nat} : LD cn n p t = true ↔ ∀ q, q < n → t.testBit q = true → p ≠ q ∧ cn p q = true := by
  unfold LD
  rw [al_iff]
  constructor
  · intro h q hq ht
    have := h q hq
    rw [ht, Bool.not_true, Bool.false_or, Bool.and_eq_true, decide_eq_true_eq] at this
    exact this
  · intro h q hq
    cases ht : t.testBit q
    · rfl
    · rw [Bool.not_true, Bool.false_or, Bool.and_eq_true, decide_eq_true_eq]
      exact h q hq ht
def oc (cn : Nat → Nat → Bool) (n : Nat) : Nat → Nat → Nat
  | 0, _ => 1
  | f + 1, t => su (fun p => if t.testBit p && LD cn n p (dif t (2 ^ p)) then oc cn n f (dif t (2 ^ p)) else 0) n
def OC (cn : Nat → Nat → Bool) (n t : Nat) : Nat := oc cn n (pc t) t
def OG (cn : Nat → Nat → Bool) (n t p : Nat) : Nat := if t.testBit p && LD cn n p (dif t (2 ^ p)) then OC cn n (dif t (2 ^ p)) else 0
theorem ct_rm {f : Nat → Bool} {a : Nat} (h : f a = true) : ∀ k, a < k → ct (fun q => f q && !decide (a = q)) k + 1 = ct f k := by
  intro k
  induction k with
  | zero => intro h; omega
  | succ k ih =>
    intro hk
    rw [ct_s, ct_s]
    by_cases e : a = k
    · subst e
      rw [h, decide_eq_true rfl, if_pos rfl, if_neg (show ¬ (true && !true) = true by decide)]
      have : ct (fun q => f q && !decide (a = q)) a = ct f a := ct_congr a (fun i hi => by rw [decide_eq_false (show ¬ a = i by omega)]; simp)
      omega
    · have := ih (by omega)
      rw [decide_eq_false e, Bool.not_false, Bool.and_true]
      omega
theorem pc_dif {t p : Nat} (ht : t < 4096) (hp : t.testBit p = true) : pc (dif t (2 ^ p)) + 1 = pc t := by
  have hp12 : p < 12 := by
    by_cases z : p < 12
    · exact z
    · rw [tb_out (k := 12) ht (by omega)] at hp; exact absurd hp (by decide)
  have hd := Nat.lt_of_le_of_lt (dif_le t (2 ^ p)) ht
  unfold pc
  rw [pc_ct hd, pc_ct ht, ← ct_rm (f := fun q => t.testBit q) hp 12 hp12]
  congr 1
  exact ct_congr 12 (fun i _ => by rw [dif_t ht, Nat.testBit_two_pow])
theorem pc_pos {t : Nat} (ht : t < 4096) (h : t ≠ 0) : 0 < pc t := by
  obtain ⟨p, hp, _⟩ := lowest_ex h
  have := pc_dif ht hp
  omega
section
variable {cn : Nat → Nat → Bool} {n : Nat}
theorem OC_0 : OC cn n 0 = 1 := by unfold OC; rw [pc_0]; rfl
theorem OC_s {t : Nat} (ht : t < 4096) (h : t ≠ 0) : OC cn n t = su (OG cn n t) n := by
  have hp := pc_pos ht h
  unfold OC
  obtain ⟨k, ek⟩ : ∃ k, pc t = k + 1 := ⟨pc t - 1, by omega⟩
  rw [ek]
  show su (fun p => if t.testBit p && LD cn n p (dif t (2 ^ p)) then oc cn n k (dif t (2 ^ p)) else 0) n = _
  refine su_congr n (fun p _ => ?_)
  unfold OG OC
  cases hb : t.testBit p
  · rw [Bool.false_and, if_neg (show ¬ false = true by decide), if_neg (show ¬ false = true by decide)]
  · have := pc_dif ht hb
    rw [show pc (dif t (2 ^ p)) = k by omega]
theorem OC_le (hn : n ≤ 12) : ∀ k t, t < 4096 → pc t = k → OC cn n t ≤ 12 ^ k := by
  intro k
  induction k with
  | zero =>
    intro t ht hk
    by_cases e : t = 0
    · subst e; rw [OC_0]; decide
    · have := pc_pos ht e; omega
  | succ k ih =>
    intro t ht hk
    have e : t ≠ 0 := fun e => by rw [e, pc_0] at hk; omega
    rw [OC_s ht e]
    have h := su_le (g := OG cn n t) (B := 12 ^ k) n (fun p _ => by
      unfold OG
      cases hb : t.testBit p
      · rw [Bool.false_and, if_neg (show ¬ false = true by decide)]; exact Nat.zero_le _
      · split
        · have := pc_dif ht hb
          exact ih _ (Nat.lt_of_le_of_lt (dif_le _ _) ht) (by omega)
        · exact Nat.zero_le _)
    have h2 : n * 12 ^ k ≤ 12 * 12 ^ k := Nat.mul_le_mul_right _ hn
    rw [Nat.pow_succ, Nat.mul_comm (12 ^ k) 12]
    omega
theorem OC_lt (hn : n ≤ 12) {t : Nat} (ht : t < 4096) (h8 : pc t ≤ 8) : OC cn n t < 2 ^ 31 := by
  have h1 := OC_le (cn := cn) hn (pc t) t ht rfl
  have h2 : 12 ^ pc t ≤ 12 ^ 8 := Nat.pow_le_pow_right (by decide) h8
  have h3 : 12 ^ 8 < 2 ^ 31 := by decide
  omega
theorem OG_pos {t p : Nat} (h : 0 < OG cn n t p) : t.testBit p = true ∧ LD cn n p (dif t (2 ^ p)) = true ∧ 0 < OC cn n (dif t (2 ^ p)) := by
  unfold OG at h
  cases hb : t.testBit p
  · rw [hb, Bool.false_and, if_neg (show ¬ false = true by decide)] at h; omega
  · cases hl : LD cn n p (dif t (2 ^ p))
    · rw [hb, hl, Bool.true_and, if_neg (show ¬ false = true by decide)] at h; omega
    · rw [hb, hl, Bool.true_and, if_pos rfl] at h; exact ⟨rfl, rfl, h⟩
theorem dif_mono {a b y : Nat} (ha : a < 4096) (hb : b < 4096) (h : Sub a b) : Sub (dif a y) (dif b y) := fun q hq => by
  rw [dif_t ha, Bool.and_eq_true] at hq
  rw [dif_t hb, h q hq.1, hq.2]; rfl
theorem OC_mono : ∀ N t, t < N → t < 4096 → 0 < OC cn n t → ∀ t', Sub t' t → 0 < OC cn n t' := by
  intro N
  induction N with
  | zero => intro t h; omega
  | succ N ih =>
    intro t hN ht hpos t' hsub
    by_cases e' : t' = 0
    · subst e'; rw [OC_0]; omega
    have hle := hsub.le
    have e : t ≠ 0 := by omega
    rw [OC_s ht e] at hpos
    obtain ⟨p, hp, hg⟩ := (su_pos n).mp hpos
    obtain ⟨g1, g2, g3⟩ := OG_pos hg
    have hlt : dif t (2 ^ p) < t := by
      have h1 := dif_le t (2 ^ p)
      have h2 := pc_dif ht g1
      by_cases z : dif t (2 ^ p) = t
      · rw [z] at h2; omega
      · omega
    have ht' : t' < 4096 := by omega
    cases hb : t'.testBit p
    · refine ih _ (by omega) (by omega) g3 t' (fun q hq => ?_)
      rw [dif_t ht, hsub q hq, Nat.testBit_two_pow, decide_eq_false]
      · rfl
      · intro z; rw [← z] at hq; rw [hq] at hb; exact absurd hb (by decide)
    · have h4 := ih _ (by omega) (by omega) g3 (dif t' (2 ^ p)) (dif_mono ht' ht hsub)
      rw [OC_s ht' e']
      refine (su_pos n).mpr ⟨p, hp, ?_⟩
      unfold OG
      rw [hb, show LD cn n p (dif t' (2 ^ p)) = true from LD_iff.mpr (fun q hq hq2 => LD_iff.mp g2 q hq (dif_mono ht' ht hsub q hq2)), Bool.true_and, if_pos rfl]
      exact h4
end
/-! the reference -/
section
variable {n : Nat} {X : Nat → PV} {sl : Int32}
theorem ah_5 {v : Mem} {p t : Nat} (hX : MX v n X sl) (hC : CAN v n X sl) (hp : p < n) (ht : t < 4096) : ∀ m k i, i + k = n → k < m → F_X7_isAheadOf_5 m v (nI p) (nI t) (bi (al (fun q => !t.testBit q || (decide (p ≠ q) && cnW X sl p q)) i)) (nI i) = some (bi (LD (cnW X sl) n p t), v) := by
  intro m
  induction m with
  | zero => intro k i _ h; exact absurd h (by omega)
  | succ m ih =>
    intro k i h1 hk
    have hn := hX.1
    unfold F_X7_isAheadOf_5 F_X7_isAheadOf_48 F_X7_isAheadOf_44 F_X7_isAheadOf_49
    rw [gd_c0, cl_0, hX.2.1]
    cases k with
    | zero =>
      have e : i = n := by omega
      subst e
      rw [if_pos (nI_le (Nat.le_refl i) (by omega)), gz_bi]; rfl
    | succ k =>
      rw [if_neg (nI_ge (by omega) (by omega)), nI_1]
      have h := ih k (i + 1) (by omega) (by omega)
      rw [al_s] at h
      cases ha : al (fun q => !t.testBit q || (decide (p ≠ q) && cnW X sl p q)) i
      · rw [ha, Bool.false_and] at h
        rw [if_pos (show bi false = 0 from rfl)]; exact h
      · rw [ha, Bool.true_and] at h
        rw [if_neg (show ¬ bi true = 0 by decide), has_M ht (show i < 12 by omega), bdI_s]
        cases hb : t.testBit i
        · rw [hb] at h
          rw [if_pos (show bi false = 0 from rfl)]; exact h
        · rw [hb, Bool.not_true, Bool.false_or] at h
          rw [if_neg (show ¬ bi true = 0 by decide), ix12, gd_nI _ (show 12 * p + i < 144 by omega) (by omega), nI_clamp (show 12 * p + i < 2 ^ 31 by omega), hC p i hp (by omega)]
          cases ho : (decide (p ≠ i) && cnW X sl p i)
          · rw [ho] at h; rw [if_pos (show bi false = 0 from rfl)]; exact h
          · rw [ho] at h; rw [if_neg (show ¬ bi true = 0 by decide)]; exact h
theorem ahead_M {v : Mem} {p t : Nat} (hX : MX v n X sl) (hC : CAN v n X sl) (hp : p < n) (ht : t < 4096) : F_X7_isAheadOf v (nI p) (nI t) = some (bi (LD (cnW X sl) n p t), v) := by
  have hn := hX.1
  exact ah_5 hX hC hp ht fu n 0 (by omega) (by unfold fu; omega)
def TO (v : Mem) (cn : Nat → Nat → Bool) (n s y : Nat) : Prop := ∀ t, t < y → Sub t s → v.1 7 t = nI (OC cn n t)
theorem fr_31 {v : Mem} {s y : Nat} (hX : MX v n X sl) (hC : CAN v n X sl) (hB : TO v (cnW X sl) n s y) (hs2 : s < 4096) (hys : Sub y s) (k13 : Mem → Int32 → Int32 → Option Mem) : ∀ m k i, i + k = n → k < m → F_X7_findOrders_31 k13 m v (nI s) (nI y) (nI (su (OG (cnW X sl) n y) i)) (nI i) = k13 (sI v 7 y (nI (su (OG (cnW X sl) n y) n))) (nI s) (nI (y + 1)) := by
  have hyl := hys.le
  have hy : y < 4096 := by omega
  intro m
  induction m with
  | zero => intro k i _ h; exact absurd h (by omega)
  | succ m ih =>
    intro k i h1 hk
    have hn := hX.1
    unfold F_X7_findOrders_31 F_X7_findOrders_83 F_X7_findOrders_84 F_X7_findOrders_99
    rw [gd_c0, cl_0, hX.2.1]
    cases k with
    | zero =>
      have e : i = n := by omega
      subst e
      rw [if_pos (nI_le (Nat.le_refl i) (by omega)), gd_nI _ hy (by omega), nI_clamp (show y < 2 ^ 31 by omega), nI_1]
    | succ k =>
      have hdl := dif_le y (2 ^ i)
      have h := ih k (i + 1) (by omega) (by omega)
      rw [su_s] at h
      rw [if_neg (nI_ge (by omega) (by omega)), has_M hy (by omega), bdI_s, bit_I i (by omega), dif_I, ahead_M hX hC (show i < n by omega) (show dif y (2 ^ i) < 4096 by omega), bdI_s, gd_nI _ (show dif y (2 ^ i) < 4096 by omega) (by omega), nI_clamp (show dif y (2 ^ i) < 2 ^ 31 by omega), Int32.add_zero, nI_1]
      unfold OG at h ⊢
      cases hb : y.testBit i
      · rw [hb, Bool.false_and, if_neg (show ¬ false = true by decide), Nat.add_zero] at h
        rw [if_pos (show bi false = 0 from rfl)]; exact h
      · rw [hb, Bool.true_and] at h
        rw [if_neg (show ¬ bi true = 0 by decide)]
        cases hl : LD (cnW X sl) n i (dif y (2 ^ i))
        · rw [hl, if_neg (show ¬ false = true by decide), Nat.add_zero] at h
          rw [if_pos (show bi false = 0 from rfl)]; exact h
        · rw [hl, if_pos rfl] at h
          have hlt : dif y (2 ^ i) < y := by
            have h2 := pc_dif hy hb
            by_cases z : dif y (2 ^ i) = y
            · rw [z] at h2; omega
            · omega
          rw [if_neg (show ¬ bi true = 0 by decide), hB _ hlt ((dif_sub _ hy).tr hys), nI_add]; exact h
theorem fr_13o {s : Nat} (hs2 : s < 4096) : ∀ (m j y : Nat) (v : Mem), y + j = s + 1 → j < m → 1 ≤ y → MX v n X sl → CAN v n X sl → TO v (cnW X sl) n s y → ∃ v', F_X7_findOrders_13 m v (nI s) (nI y) = some v' ∧ TO v' (cnW X sl) n s (s + 1) ∧ v'.2 = v.2 ∧ ∀ c, c ≠ 7 → v'.1 c = v.1 c := by
  intro m
  induction m with
  | zero => intro j y v _ h; exact absurd h (by omega)
  | succ m ih =>
    intro j y v h1 hj hy1 hX hC hB
    have hn := hX.1
    unfold F_X7_findOrders_13
    cases j with
    | zero =>
      have e : y = s + 1 := by omega
      subst e
      rw [if_pos (nI_lt (by omega) (by omega))]
      exact ⟨v, rfl, hB, rfl, fun _ _ => rfl⟩
    | succ j =>
      have hy4 : y < 4096 := by omega
      rw [if_neg (nI_nlt (by omega) (by omega)), dif_I]
      have hz : nI (dif y s) = 0 ↔ Sub y s := by rw [nI0 (Nat.lt_of_le_of_lt (dif_le y s) hy4), sub_dif hy4]
      by_cases hsub : Sub y s
      · rw [if_pos (hz.mpr hsub)]
        have e1 := fr_31 hX hC hB hs2 hsub (F_X7_findOrders_13 m) fu n 0 (by omega) (by unfold fu; omega)
        have z : nI 0 = (0 : Int32) := rfl
        rw [show su (OG (cnW X sl) n y) 0 = 0 from rfl, z, ← OC_s hy4 (by omega)] at e1
        obtain ⟨v', e2, f2, f3, f4⟩ := ih j (y + 1) (sI v 7 y (nI (OC (cnW X sl) n y))) (by omega) (by omega) (by omega) (hX.fr rfl (funext fun j => sI_i (by decide))) (fun a b ha hb => by rw [sI_i (by decide)]; exact hC a b ha hb) (fun t ht hts => by
          by_cases e : t = y
          · subst e; exact sI_eq
          · rw [sI_k e]; exact hB t (by omega) hts)
        exact ⟨v', e1.trans e2, f2, f3, fun c hc => (f4 c hc).trans (funext fun j => sI_i hc)⟩
      · unfold F_X7_findOrders_99
        rw [if_neg (fun z => hsub (hz.mp z)), nI_1]
        exact ih j (y + 1) v (by omega) (by omega) (by omega) hX hC (fun t ht hts => hB t (by
          by_cases e : t = y
          · subst e; exact absurd hts hsub
          · omega) hts)
theorem findOrders_M {v : Mem} {s : Nat} (hX : MX v n X sl) (hs2 : s < 4096) : ∃ v', F_X7_findOrders v (nI s) = some v' ∧ TO v' (cnW X sl) n s (s + 1) ∧ CAN v' n X sl ∧ W47 v v' := by
  obtain ⟨v1, e1, w1, c1, -⟩ := findCan_M hX
  have c2 : CAN (sI v1 7 0 1) n X sl := fun a b ha hb => by rw [sI_i (by decide)]; exact c1 a b ha hb
  obtain ⟨v2, e2, f2, f3, f4⟩ := fr_13o hs2 fu s 1 (sI v1 7 0 1) (by omega) (by unfold fu; omega) (by omega) ((w1.mx hX).fr rfl (funext fun j => sI_i (by decide))) c2 (fun t ht _ => by
    have e : t = 0 := by omega
    subst e
    rw [sI_eq, OC_0]; rfl)
  refine ⟨v2, ?_, f2, fun a b ha hb => by rw [f4 4 (by decide)]; exact c2 a b ha hb, f3.trans w1.1, fun c h4 h5 h6 h7 => (f4 c h7).trans ((funext fun j => sI_i h7).trans (w1.2 c h4 h5))⟩
  unfold F_X7_findOrders
  rw [e1, bdV_s, gd_40, cl_0]
  exact e2
end
/-! the class: members told by places -/
def Cs (s p : Nat) : Nat := ct (fun q => s.testBit q) p
theorem Cs_s (s p : Nat) : Cs s (p + 1) = Cs s p + if s.testBit p then 1 else 0 := rfl
theorem Cs_mono {s a : Nat} : ∀ b, a ≤ b → Cs s a ≤ Cs s b := by
  intro b
  induction b with
  | zero => intro h; rw [show a = 0 by omega]; exact Nat.le_refl _
  | succ b ih =>
    intro h
    by_cases e : a = b + 1
    · rw [e]; exact Nat.le_refl _
    · have := ih (by omega); rw [Cs_s]; omega
theorem Cs_lt {s a b : Nat} (ha : s.testBit a = true) (h : a < b) : Cs s a < Cs s b := ct_inj (f := fun q => s.testBit q) ha h
theorem Cs_ex {s j : Nat} : ∀ n, j < Cs s n → ∃ q, q < n ∧ s.testBit q = true ∧ Cs s q = j := by
  intro n
  induction n with
  | zero => intro h; exact absurd h (by show ¬ j < 0; omega)
  | succ n ih =>
    intro h
    rw [Cs_s] at h
    by_cases e : j < Cs s n
    · obtain ⟨q, h1, h2, h3⟩ := ih e; exact ⟨q, by omega, h2, h3⟩
    · cases hb : s.testBit n
      · rw [hb, if_neg (show ¬ false = true by decide)] at h; omega
      · rw [hb, if_pos rfl] at h; exact ⟨n, by omega, hb, by omega⟩
def MF (n s : Nat) (mf : Nat → Nat) : Prop := ∀ q, q < n → s.testBit q = true → mf (Cs s q) = q
theorem MF.at {n s j : Nat} {mf : Nat → Nat} (h : MF n s mf) (hj : j < Cs s n) : mf j < n ∧ s.testBit (mf j) = true ∧ Cs s (mf j) = j := by
  obtain ⟨q, h1, h2, h3⟩ := Cs_ex n hj
  have := h q h1 h2
  rw [h3] at this
  rw [this]; exact ⟨h1, h2, h3⟩
theorem setb_g {x b q : Nat} {z : Bool} (hq : q < 32) : (setb x b z).testBit q = if q = b then z else x.testBit q := by
  cases z
  · show (dif x (2 ^ b)).testBit q = _
    unfold dif
    rw [Nat.testBit_and, Nat.testBit_xor, tb32 q hq, Nat.testBit_two_pow]
    by_cases h : q = b
    · subst h; simp
    · rw [if_neg h, decide_eq_false (fun e => h e.symm)]; simp
  · show (x ||| 2 ^ b).testBit q = _
    rw [Nat.testBit_or, Nat.testBit_two_pow]
    by_cases h : q = b
    · subst h; simp
    · rw [if_neg h, decide_eq_false (fun e => h e.symm)]; simp
theorem any_nI (x : Int32) : ∃ X, x = nI X := ⟨x.toBitVec.toNat, by
  apply Int32.toBitVec_inj.1
  show x.toBitVec = BitVec.ofNat 32 x.toBitVec.toNat
  rw [BitVec.ofNat_toNat, BitVec.setWidth_eq]⟩
def WO (u u2 : Mem) : Prop := u2.2 = u.2 ∧ ∀ c, c ≠ 7 → c ≠ 12 → c ≠ 13 → c ≠ 14 → u2.1 c = u.1 c
theorem WO.rf (u : Mem) : WO u u := ⟨rfl, fun _ _ _ _ _ => rfl⟩
theorem WO.tr {u u2 u3 : Mem} (h : WO u u2) (g : WO u2 u3) : WO u u3 := ⟨g.1.trans h.1, fun c a b d e => (g.2 c a b d e).trans (h.2 c a b d e)⟩
theorem WO.ok {u u2 : Mem} (h : WO u u2) : okC u u2 := fun i a _ _ => ⟨h.2 i (by omega) (by omega) (by omega) (by omega), by rw [h.1]⟩
def FO (u : Mem) (cn : Nat → Nat → Bool) (n c : Nat) (mf : Nat → Nat) (k j : Nat) : Prop := ∃ x, u.1 13 k = nI x ∧ ∀ i, i < j → x.testBit i = EF n cn (mf k) (mf i)
section
variable {n s : Nat} {cn f : Nat → Nat → Bool}
theorem gm_73 {c k : Nat} {mf : Nat → Nat} (hn : n ≤ 12) (hc : c ≤ 8) (hk : k < c) (hmf : ∀ j, j < c → mf j < n) (k63 : Mem → Int32 → Option Mem) : ∀ (m i j : Nat) (u : Mem), j + i = c → i < m → u.1 7 10 = nI c → (∀ j, j < c → u.1 12 j = nI (mf j)) → LM u (EF n cn) f → FO u cn n c mf k j → (∀ k', k' < k → FO u cn n c mf k' c) → ∃ u', F_X2_gatherMembers_73 k63 m u (nI k) (nI j) = k63 u' (nI (k + 1)) ∧ u'.2 = u.2 ∧ (∀ c, c ≠ 13 → u'.1 c = u.1 c) ∧ ∀ k', k' < k + 1 → FO u' cn n c mf k' c := by
  intro m
  induction m with
  | zero => intro i j u _ h; exact absurd h (by omega)
  | succ m ih =>
    intro i j u h1 hi h7 h12 hL hF hP
    unfold F_X2_gatherMembers_73
    rw [h7]
    cases i with
    | zero =>
      have e : j = c := by omega
      subst e
      rw [if_pos (nI_le (Nat.le_refl j) (by omega)), nI_1]
      refine ⟨u, rfl, rfl, fun _ _ => rfl, fun k' hk' => ?_⟩
      by_cases e : k' = k
      · rw [e]; exact hF
      · exact hP k' (by omega)
    | succ i =>
      have hmk := hmf k hk
      have hmj := hmf j (by omega)
      obtain ⟨x, hx, tx⟩ := hF
      obtain ⟨y, hy, ey, ty⟩ := (hL (mf k) (by omega)).1
      rw [if_neg (nI_ge (by omega) (by omega)), gd_nI _ (show k < 8 by omega) (by omega), cl_nI (show k < 12 by omega), h12 k hk, gd_nI _ (show mf k < 12 by omega) (by omega), cl_nI (show mf k < 12 by omega), gd_nI _ (show j < 8 by omega) (by omega), cl_nI (show j < 12 by omega), h12 j (by omega), ey, isIn_C hy (by omega), ty (mf j) (by omega), bdI_s, note_C (N := 8) rfl (show k < 8 by omega) (by omega) (show j < 12 by omega) hx, bdV_s, nI_1]
      obtain ⟨u', e1, e2, e3, e4⟩ := ih i (j + 1) (sI u 13 k (nI (setb x j (EF n cn (mf k) (mf j))))) (by omega) (by omega) (by rw [sI_i (by decide)]; exact h7) (fun j hj => by rw [sI_i (by decide)]; exact h12 j hj) (hL.fr (funext fun j => sI_i (by decide)) (funext fun j => sI_i (by decide))) ⟨_, sI_eq, fun i hi => by
        rw [setb_g (by omega)]
        by_cases e : i = j
        · rw [if_pos e, e]
        · rw [if_neg e]; exact tx i (by omega)⟩ (fun k' hk' => by
        obtain ⟨z, a, b⟩ := hP k' hk'
        exact ⟨z, by rw [sI_k (by omega)]; exact a, b⟩)
      exact ⟨u', e1, e2, fun c hc => (e3 c hc).trans (funext fun j => sI_i hc), e4⟩
theorem gm_63 {c : Nat} {mf : Nat → Nat} (hn : n ≤ 12) (hc : c ≤ 8) (hmf : ∀ j, j < c → mf j < n) : ∀ (m i k : Nat) (u : Mem), k + i = c → i < m → u.1 7 10 = nI c → (∀ j, j < c → u.1 12 j = nI (mf j)) → LM u (EF n cn) f → (∀ k', k' < k → FO u cn n c mf k' c) → ∃ u', F_X2_gatherMembers_63 m u (nI k) = some u' ∧ u'.2 = u.2 ∧ (∀ c, c ≠ 13 → u'.1 c = u.1 c) ∧ ∀ k', k' < c → FO u' cn n c mf k' c := by
  intro m
  induction m with
  | zero => intro i k u _ h; exact absurd h (by omega)
  | succ m ih =>
    intro i k u h1 hi h7 h12 hL hP
    unfold F_X2_gatherMembers_63
    rw [h7]
    cases i with
    | zero =>
      have e : k = c := by omega
      subst e
      rw [if_pos (nI_le (Nat.le_refl k) (by omega))]
      exact ⟨u, rfl, rfl, fun _ _ => rfl, hP⟩
    | succ i =>
      rw [if_neg (nI_ge (by omega) (by omega))]
      obtain ⟨x, hx⟩ := any_nI (u.1 13 k)
      obtain ⟨u1, e1, e2, e3, e4⟩ := gm_73 (n := n) (cn := cn) (f := f) hn hc (show k < c by omega) hmf (F_X2_gatherMembers_63 m) fu c 0 u (by omega) (by unfold fu; omega) h7 h12 hL ⟨x, hx, fun i hi => absurd hi (by omega)⟩ hP
      have z : nI 0 = (0 : Int32) := rfl
      rw [z] at e1
      obtain ⟨u', f1, f2, f3, f4⟩ := ih i (k + 1) u1 (by omega) (by omega) (by rw [e3 7 (by decide)]; exact h7) (fun j hj => by rw [e3 12 (by decide)]; exact h12 j hj) (hL.fr (e3 8 (by decide)) (e3 9 (by decide))) e4
      exact ⟨u', e1.trans f1, f2.trans e2, fun c hc => (f3 c hc).trans (e3 c hc), f4⟩
theorem gm_7 (hn : n ≤ 12) (hs2 : s < 4096) (h8 : Cs s n ≤ 8) : ∀ (m k p : Nat) (mf : Nat → Nat) (u : Mem), p + k = n → k < m → u.1 4 1 = nI n → u.1 7 10 = nI (Cs s p) → (∀ j, j < Cs s p → u.1 12 j = nI (mf j)) → MF p s mf → ∃ (mf' : Nat → Nat) (u' : Mem), F_X2_gatherMembers_7 m u (nI s) (nI p) = F_X2_gatherMembers_63 fu u' 0 ∧ WO u u' ∧ u'.1 7 10 = nI (Cs s n) ∧ (∀ j, j < Cs s n → u'.1 12 j = nI (mf' j)) ∧ MF n s mf' := by
  intro m
  induction m with
  | zero => intro k p mf u _ h; exact absurd h (by omega)
  | succ m ih =>
    intro k p mf u h1 hk h4 h7 h12 hM
    unfold F_X2_gatherMembers_7 F_X2_gatherMembers_61 F_X2_gatherMembers_55
    rw [h4, h7]
    have hpn := Cs_mono (s := s) (a := p) n (by omega)
    cases k with
    | zero =>
      have e : p = n := by omega
      subst e
      rw [if_pos (nI_le (Nat.le_refl p) (by omega))]
      exact ⟨mf, u, rfl, WO.rf u, h7, h12, hM⟩
    | succ k =>
      rw [if_neg (nI_ge (by omega) (by omega))]
      by_cases he : 8 ≤ Cs s p
      · rw [if_pos (show (8 : Int32) ≤ nI (Cs s p) from nI_le (a := 8) he (by omega))]
        have e : Cs s p = Cs s n := by omega
        refine ⟨mf, u, rfl, WO.rf u, by rw [h7, e], fun j hj => h12 j (by omega), fun q hq hs => ?_⟩
        by_cases z : q < p
        · exact hM q z hs
        · have a1 := Cs_mono (s := s) (a := p) q (by omega)
          have a2 := Cs_lt hs hq
          omega
      · rw [if_neg (show ¬ (8 : Int32) ≤ nI (Cs s p) from nI_ge (b := 8) (by omega) (by omega)), isIn_C hs2 (by omega), bdI_s, nI_1]
        cases hb : s.testBit p
        · rw [if_pos (show bi false = 0 from rfl)]
          have ec : Cs s (p + 1) = Cs s p := by rw [Cs_s, hb]; rfl
          exact ih k (p + 1) mf u (by omega) (by omega) h4 (by rw [ec]; exact h7) (by rw [ec]; exact h12) (fun q hq hs => by
            by_cases z : q = p
            · rw [z, hb] at hs; exact absurd hs (by decide)
            · exact hM q (by omega) hs)
        · rw [if_neg (show ¬ bi true = 0 by decide), h7, gd_nI _ (show Cs s p < 8 by omega) (by omega), bdV_s, cl_nI (show Cs s p < 12 by omega), sI_i (show (7 : Nat) ≠ 12 by decide), h7, nI_1]
          have ec : Cs s (p + 1) = Cs s p + 1 := by rw [Cs_s, hb]; rfl
          obtain ⟨mf', u', e1, e2, e3⟩ := ih k (p + 1) (fun j => if j = Cs s p then p else mf j) (sI (sI u 12 (Cs s p) (nI p)) 7 10 (nI (Cs s p + 1))) (by omega) (by omega) (by rw [sI_i (by decide), sI_i (by decide)]; exact h4) (by rw [sI_eq, ec]) (fun j hj => by
            rw [sI_i (by decide)]
            show (sI u 12 (Cs s p) (nI p)).1 12 j = nI (if j = Cs s p then p else mf j)
            by_cases z : j = Cs s p
            · rw [if_pos z, z, sI_eq]
            · rw [if_neg z, sI_k z]; exact h12 j (by omega)) (fun q hq hs => by
            show (if Cs s q = Cs s p then p else mf (Cs s q)) = q
            by_cases z : q = p
            · rw [z, if_pos rfl]
            · have := Cs_lt hs (show q < p by omega)
              rw [if_neg (by omega)]; exact hM q (by omega) hs)
          exact ⟨mf', u', e1, WO.tr (u2 := sI (sI u 12 (Cs s p) (nI p)) 7 10 (nI (Cs s p + 1))) ⟨rfl, fun c a b _ _ => funext fun j => by rw [sI_i a, sI_i b]⟩ e2, e3⟩
def GM (u : Mem) (cn : Nat → Nat → Bool) (n s : Nat) (mf : Nat → Nat) : Prop := u.1 7 10 = nI (Cs s n) ∧ (∀ j, j < Cs s n → u.1 12 j = nI (mf j)) ∧ MF n s mf ∧ ∀ k, k < Cs s n → FO u cn n (Cs s n) mf k (Cs s n)
theorem gather_C {u : Mem} (hn : n ≤ 12) (hs2 : s < 4096) (h8 : Cs s n ≤ 8) (h4 : u.1 4 1 = nI n) (hL : LM u (EF n cn) f) : ∃ (mf : Nat → Nat) (u' : Mem), F_X2_gatherMembers u (nI s) = some u' ∧ WO u u' ∧ GM u' cn n s mf := by
  obtain ⟨mf, u1, e1, w1, a1, a2, a3⟩ := gm_7 (n := n) (s := s) hn hs2 h8 fu n 0 (fun _ => 0) (sI u 7 10 0) (by omega) (by unfold fu; omega) (by rw [sI_i (by decide)]; exact h4) sI_eq (fun j hj => absurd hj (by show ¬ j < 0; omega)) (fun q hq => absurd hq (by omega))
  have w2 : WO u u1 := WO.tr (u2 := sI u 7 10 0) ⟨rfl, fun c a _ _ _ => funext fun j => sI_i a⟩ w1
  obtain ⟨u2, e2, b1, b2, b3⟩ := gm_63 (n := n) (cn := cn) (f := f) (mf := mf) hn h8 (fun j hj => (a3.at hj).1) fu (Cs s n) 0 u1 (by omega) (by unfold fu; omega) a1 a2 (hL.fr (w2.2 8 (by decide) (by decide) (by decide) (by decide)) (w2.2 9 (by decide) (by decide) (by decide) (by decide))) (fun k' hk' => absurd hk' (by omega))
  exact ⟨mf, u2, e1.trans e2, w2.tr ⟨b1, fun c _ _ a _ => b2 c a⟩, by rw [b2 7 (by decide)]; exact a1, fun j hj => by rw [b2 12 (by decide)]; exact a2 j hj, a3, b3⟩
/-! parts of the set -/
def eS (n s J : Nat) : Nat := mk (fun q => s.testBit q && J.testBit (Cs s q)) n
theorem eS_t {J q : Nat} : (eS n s J).testBit q = (decide (q < n) && (s.testBit q && J.testBit (Cs s q))) := mk_t n q
theorem eS_lt {J : Nat} (hn : n ≤ 12) : eS n s J < 4096 := Nat.lt_of_lt_of_le (mk_lt n) (p2_le (by omega))
theorem eS_0 : eS n s 0 = 0 := zero_t.mpr (fun q => by rw [eS_t, Nat.zero_testBit, Bool.and_false, Bool.and_false])
theorem eS_sub {J : Nat} : Sub (eS n s J) s := fun q hq => by
  rw [eS_t, Bool.and_eq_true, Bool.and_eq_true] at hq; exact hq.2.1
theorem eS_all (hs : s < 2 ^ n) : eS n s (2 ^ Cs s n - 1) = s := Nat.eq_of_testBit_eq (fun q => by
  rw [eS_t, Nat.testBit_two_pow_sub_one]
  cases hb : s.testBit q
  · simp
  · have hq : q < n := by
      by_cases z : q < n
      · exact z
      · rw [tb_out hs (by omega)] at hb; exact absurd hb (by decide)
    rw [decide_eq_true hq, decide_eq_true (Cs_lt hb hq)]; rfl)
theorem eS_at {J k : Nat} {mf : Nat → Nat} (hM : MF n s mf) (hk : k < Cs s n) : (eS n s J).testBit (mf k) = J.testBit k := by
  obtain ⟨h1, h2, h3⟩ := hM.at hk
  rw [eS_t, decide_eq_true h1, h2, h3]; rfl
theorem eS_dif {J k : Nat} {mf : Nat → Nat} (hn : n ≤ 12) (hJ : J < 4096) (hM : MF n s mf) (hk : k < Cs s n) : eS n s (dif J (2 ^ k)) = dif (eS n s J) (2 ^ mf k) := Nat.eq_of_testBit_eq (fun q => by
  obtain ⟨h1, h2, h3⟩ := hM.at hk
  rw [eS_t, dif_t (eS_lt hn), eS_t, dif_t hJ, Nat.testBit_two_pow, Nat.testBit_two_pow]
  by_cases hq : q < n
  · cases hb : s.testBit q
    · simp
    · have : decide (k = Cs s q) = decide (mf k = q) := decide_eq_decide.mpr ⟨fun e => by rw [e]; exact hM q hq hb, fun e => by rw [← e, h3]⟩
      rw [decide_eq_true hq, this]
      cases J.testBit (Cs s q) <;> cases decide (mf k = q) <;> rfl
  · rw [decide_eq_false hq]; simp)
theorem lead_C {u : Mem} {mf : Nat → Nat} {k R : Nat} (hG : GM u cn n s mf) (hn : n ≤ 12) (h8 : Cs s n ≤ 8) (hk : k < Cs s n) (hR : R < 2 ^ Cs s n) : F_X2_canLead u (nI k) (nI R) = some (bi (LD cn n (mf k) (eS n s R)), u) := by
  obtain ⟨x, hx, tx⟩ := hG.2.2.2 k hk
  obtain ⟨m1, m2, m3⟩ := hG.2.2.1.at hk
  have hR4 : R < 4096 := Nat.lt_of_lt_of_le hR (p2_le (by omega))
  unfold F_X2_canLead F_X2_canLead_18
  rw [gd_nI _ (show k < 8 by omega) (by omega), cl_nI (show k < 12 by omega), hx, dif_I]
  have hz : nI (dif R x) = 0 ↔ LD cn n (mf k) (eS n s R) = true := by
    rw [nI0 (Nat.lt_of_le_of_lt (dif_le _ _) hR4), sub_dif hR4, LD_iff]
    constructor
    · intro h q hq ht
      rw [eS_t, Bool.and_eq_true, Bool.and_eq_true] at ht
      have h1 := h _ ht.2.2
      have h2 := Cs_lt ht.2.1 hq
      rw [tx _ h2, hG.2.2.1 q hq ht.2.1] at h1
      unfold EF at h1
      rw [Bool.and_eq_true, decide_eq_true_eq] at h1
      exact ⟨h1.1.1, h1.2⟩
    · intro h j hj
      have hjc : j < Cs s n := by
        by_cases z : j < Cs s n
        · exact z
        · rw [tb_out hR (by omega)] at hj; exact absurd hj (by decide)
      obtain ⟨j1, j2, j3⟩ := hG.2.2.1.at hjc
      have h1 := h (mf j) j1 (by rw [eS_at hG.2.2.1 hjc]; exact hj)
      rw [tx j hjc]
      unfold EF
      rw [decide_eq_true ⟨h1.1, m1, j1⟩, h1.2]; rfl
  cases hl : LD cn n (mf k) (eS n s R)
  · rw [if_neg (fun z => by rw [hz.mp z] at hl; exact absurd hl (by decide))]; rfl
  · rw [if_pos (hz.mpr hl)]; rfl
theorem su_mf {G : Nat → Nat} {mf : Nat → Nat} : ∀ p, MF p s mf → (∀ q, s.testBit q = false → G q = 0) → su G p = su (fun k => G (mf k)) (Cs s p) := by
  intro p
  induction p with
  | zero => intro _ _; rfl
  | succ p ih =>
    intro hM hG
    have h := ih (fun q hq hs => hM q (by omega) hs) hG
    rw [su_s, h, Cs_s]
    cases hb : s.testBit p
    · rw [hG p hb, if_neg (show ¬ false = true by decide)]; rfl
    · rw [if_pos rfl, su_s, hM p (by omega) hb]
def HG (cn : Nat → Nat → Bool) (n s J : Nat) (mf : Nat → Nat) (k : Nat) : Nat := if J.testBit k && LD cn n (mf k) (eS n s (dif J (2 ^ k))) then OC cn n (eS n s (dif J (2 ^ k))) else 0
theorem HG_OC {J : Nat} {mf : Nat → Nat} (hn : n ≤ 12) (hJ : J < 2 ^ Cs s n) (h8 : Cs s n ≤ 8) (h0 : J ≠ 0) (hM : MF n s mf) : su (HG cn n s J mf) (Cs s n) = OC cn n (eS n s J) := by
  have hJ4 : J < 4096 := Nat.lt_of_lt_of_le hJ (p2_le (by omega))
  have hne : eS n s J ≠ 0 := fun z => by
    obtain ⟨k, hk, _⟩ := lowest_ex h0
    have hkc : k < Cs s n := by
      by_cases y : k < Cs s n
      · exact y
      · rw [tb_out hJ (by omega)] at hk; exact absurd hk (by decide)
    have := eS_at (J := J) hM hkc
    rw [z, Nat.zero_testBit, hk] at this
    exact absurd this (by decide)
  rw [OC_s (eS_lt hn) hne, su_mf n hM (fun q hq => by
    unfold OG
    rw [show (eS n s J).testBit q = false by rw [eS_t, hq]; simp, Bool.false_and, if_neg (show ¬ false = true by decide)])]
  refine su_congr _ (fun k hk => ?_)
  unfold HG OG
  rw [eS_at hM hk, eS_dif hn hJ4 hM hk]
theorem dif_lt {J k : Nat} (hJ : J < 4096) (hk : J.testBit k = true) : dif J (2 ^ k) < J := by
  have h1 := dif_le J (2 ^ k)
  have h2 := pc_dif hJ hk
  by_cases z : dif J (2 ^ k) = J
  · rw [z] at h2; omega
  · omega
theorem co_29 {u : Mem} {mf : Nat → Nat} {J : Nat} (hG : GM u cn n s mf) (hn : n ≤ 12) (h8 : Cs s n ≤ 8) (hJ : J < 2 ^ Cs s n) (hT : ∀ K, K < J → u.1 14 K = nI (OC cn n (eS n s K))) (k14 : Mem → Int32 → Option Mem) : ∀ m k i, i + k = Cs s n → k < m → F_X2_countOrders_29 k14 m u (nI J) (nI (su (HG cn n s J mf) i)) (nI i) = k14 (sI u 14 J (nI (su (HG cn n s J mf) (Cs s n)))) (nI (J + 1)) := by
  have hp8 : 2 ^ Cs s n ≤ 2 ^ 8 := Nat.pow_le_pow_right (by decide) h8
  have h256 : (2 : Nat) ^ 8 = 256 := rfl
  have hJ4 : J < 4096 := by omega
  intro m
  induction m with
  | zero => intro k i _ h; exact absurd h (by omega)
  | succ m ih =>
    intro k i h1 hk
    unfold F_X2_countOrders_29 F_X2_countOrders_76
    rw [hG.1]
    cases k with
    | zero =>
      have e : i = Cs s n := by omega
      subst e
      rw [if_pos (nI_le (Nat.le_refl _) (by omega)), gd_nI _ (show J < 256 by omega) (by omega), nI_clamp (show J < 2 ^ 31 by omega), nI_1]
    | succ k =>
      have hdl := dif_le J (2 ^ i)
      have h := ih k (i + 1) (by omega) (by omega)
      rw [su_s] at h
      unfold HG at h ⊢
      rw [if_neg (nI_ge (by omega) (by omega)), isIn_C hJ4 (by omega), bdI_s, wo_C (show i < 12 by omega), bdI_s, lead_C hG hn h8 (show i < Cs s n by omega) (show dif J (2 ^ i) < 2 ^ Cs s n by omega), bdI_s, wo_C (show i < 12 by omega), bdI_s, gd_nI _ (show dif J (2 ^ i) < 256 by omega) (by omega), nI_clamp (show dif J (2 ^ i) < 2 ^ 31 by omega), nI_1]
      cases hb : J.testBit i
      · rw [hb, Bool.false_and, if_neg (show ¬ false = true by decide), Nat.add_zero] at h
        rw [if_pos (show bi false = 0 from rfl)]; exact h
      · rw [hb, Bool.true_and] at h
        rw [if_neg (show ¬ bi true = 0 by decide)]
        cases hl : LD cn n (mf i) (eS n s (dif J (2 ^ i)))
        · rw [hl, if_neg (show ¬ false = true by decide), Nat.add_zero] at h
          rw [if_pos (show bi false = 0 from rfl)]; exact h
        · rw [hl, if_pos rfl] at h
          rw [if_neg (show ¬ bi true = 0 by decide), hT _ (dif_lt hJ4 hb), nI_add]; exact h
theorem co_14 {mf : Nat → Nat} (hn : n ≤ 12) (h8 : Cs s n ≤ 8) : ∀ (m j J : Nat) (u : Mem), J + j = 2 ^ Cs s n → j < m → 1 ≤ J → GM u cn n s mf → (∀ K, K < J → u.1 14 K = nI (OC cn n (eS n s K))) → ∃ u', F_X2_countOrders_14 m u (nI J) = some u' ∧ u'.2 = u.2 ∧ (∀ c, c ≠ 14 → u'.1 c = u.1 c) ∧ ∀ K, K < 2 ^ Cs s n → u'.1 14 K = nI (OC cn n (eS n s K)) := by
  have hp8 : 2 ^ Cs s n ≤ 2 ^ 8 := Nat.pow_le_pow_right (by decide) h8
  have h256 : (2 : Nat) ^ 8 = 256 := rfl
  intro m
  induction m with
  | zero => intro j J u _ h; exact absurd h (by omega)
  | succ m ih =>
    intro j J u h1 hj hJ hG hT
    unfold F_X2_countOrders_14
    rw [hG.1, bit_I _ (by omega)]
    cases j with
    | zero =>
      rw [if_pos (nI_le (by omega) (by omega))]
      exact ⟨u, rfl, rfl, fun _ _ => rfl, fun K hK => hT K (by omega)⟩
    | succ j =>
      rw [if_neg (nI_ge (by omega) (by omega))]
      have e1 := co_29 hG hn h8 (show J < 2 ^ Cs s n by omega) hT (F_X2_countOrders_14 m) fu (Cs s n) 0 (by omega) (by unfold fu; omega)
      have z : nI 0 = (0 : Int32) := rfl
      rw [show su (HG cn n s J mf) 0 = 0 from rfl, z, HG_OC hn (by omega) h8 (by omega) hG.2.2.1] at e1
      obtain ⟨u', f1, f2, f3, f4⟩ := ih j (J + 1) (sI u 14 J (nI (OC cn n (eS n s J)))) (by omega) (by omega) (by omega) ⟨by rw [sI_i (by decide)]; exact hG.1, fun j hj => by rw [sI_i (by decide)]; exact hG.2.1 j hj, hG.2.2.1, fun k hk => by
        obtain ⟨x, a, b⟩ := hG.2.2.2 k hk
        exact ⟨x, by rw [sI_i (by decide)]; exact a, b⟩⟩ (fun K hK => by
        by_cases e : K = J
        · rw [e, sI_eq]
        · rw [sI_k e]; exact hT K (by omega))
      exact ⟨u', e1.trans f1, f2, fun c hc => (f3 c hc).trans (funext fun j => sI_i hc), f4⟩
theorem count_C {u : Mem} (hn : n ≤ 12) (hs2 : s < 4096) (h8 : Cs s n ≤ 8) (h4 : u.1 4 1 = nI n) (hL : LM u (EF n cn) f) : ∃ (mf : Nat → Nat) (u' : Mem), F_X2_countOrders u (nI s) = some u' ∧ WO u u' ∧ GM u' cn n s mf ∧ ∀ K, K < 2 ^ Cs s n → u'.1 14 K = nI (OC cn n (eS n s K)) := by
  have hp8 : 2 ^ Cs s n ≤ 2 ^ 8 := Nat.pow_le_pow_right (by decide) h8
  have h256 : (2 : Nat) ^ 8 = 256 := rfl
  have hpos := Nat.two_pow_pos (Cs s n)
  obtain ⟨mf, u1, e1, w1, g1⟩ := gather_C hn hs2 h8 h4 hL
  have g2 : GM (sI u1 14 0 1) cn n s mf := ⟨by rw [sI_i (by decide)]; exact g1.1, fun j hj => by rw [sI_i (by decide)]; exact g1.2.1 j hj, g1.2.2.1, fun k hk => by
    obtain ⟨x, a, b⟩ := g1.2.2.2 k hk
    exact ⟨x, by rw [sI_i (by decide)]; exact a, b⟩⟩
  obtain ⟨u2, e2, a1, a2, a3⟩ := co_14 (cn := cn) (mf := mf) hn h8 fu (2 ^ Cs s n - 1) 1 (sI u1 14 0 1) (by omega) (by unfold fu; omega) (by omega) g2 (fun K hK => by
    have e : K = 0 := by omega
    subst e
    rw [sI_eq, eS_0, OC_0]; rfl)
  refine ⟨mf, u2, ?_, w1.tr ⟨a1, fun c _ _ _ h => (a2 c h).trans (funext fun j => sI_i h)⟩, ⟨by rw [a2 7 (by decide)]; exact g2.1, fun j hj => by rw [a2 12 (by decide)]; exact g2.2.1 j hj, g2.2.2.1, fun k hk => by
    obtain ⟨x, a, b⟩ := g2.2.2.2 k hk
    exact ⟨x, by rw [a2 13 (by decide)]; exact a, b⟩⟩, a3⟩
  unfold F_X2_countOrders
  rw [e1, bdV_s, show ∀ (x : Option Mem), gd 0 256 x = x from fun x => gd_nI (n := 0) x (by omega) (by omega), cl_0]
  exact e2
end
theorem pc_Cs {n s : Nat} (hs : s < 2 ^ n) (hs2 : s < 4096) (hn : n ≤ 12) : pcF 32 s = Cs s n := by
  rw [pc_ct hs2]
  exact ct_ext 12 hn (fun b hb _ => tb_out hs hb)
theorem ST19 : ST_19 Rel := by
  intro u v x1 hR
  obtain ⟨n, hA⟩ := hR.1
  obtain ⟨hX, hY⟩ := hA.X
  have hn := hX.1
  rcases set_cases hX.2.1 hY.2.1 hX.1 x1 with ⟨c, m⟩ | ⟨s, hs, hs2, rfl, c, m⟩
  · exact ⟨-1000000001, tC u 0, tM v 0, by unfold F_X6_orders; rw [c]; rfl, by unfold F_X7_orders; rw [m]; rfl, hR.fd 0 (by omega)⟩
  have hpc := pc_Cs hs hs2 hn
  have h12 := pc_12 hs2
  unfold pc at h12
  unfold F_X6_orders F_X7_orders F_X2_howManyOrders
  rw [c, bdI_s, ite10, bj_C u hs2, bdI_s, m, bdI_s, ite10, ones_M v (by omega), bdI_s]
  by_cases h8 : pcF 32 s ≤ 8
  · rw [if_pos (show nI (pcF 32 s) ≤ (8 : Int32) from nI_le (b := 8) h8 (by omega)), if_pos (show nI (pcF 32 s) ≤ (8 : Int32) from nI_le (b := 8) h8 (by omega))]
    rw [hpc] at h8
    have hp8 : 2 ^ Cs s n ≤ 2 ^ 8 := Nat.pow_le_pow_right (by decide) h8
    have h256 : (2 : Nat) ^ 8 = 256 := rfl
    have hpos := Nat.two_pow_pos (Cs s n)
    obtain ⟨u1, e1, w1, l1⟩ := weigh_C hX
    obtain ⟨mf, u2, e2, w2, g2, t2⟩ := count_C hn hs2 h8 (w1.X hX).2.1 l1
    obtain ⟨v1, f1, t1, -, w3⟩ := findOrders_M hY hs2
    rw [e1, bdV_s, e2, bdV_s, g2.1, bit_I _ (by omega), show nI (2 ^ Cs s n) - 1 = nI (2 ^ Cs s n - 1) from pk_sub (a := 2 ^ Cs s n) (b := 1) (by omega), gd_nI _ (show 2 ^ Cs s n - 1 < 256 by omega) (by omega), nI_clamp (show 2 ^ Cs s n - 1 < 2 ^ 31 by omega), t2 _ (by omega), eS_all hs, bdI_s, f1, bdV_s, gd_nI _ hs2 (by omega), nI_clamp (show s < 2 ^ 31 by omega), t1 s (by omega) (Sub.rf s)]
    exact ⟨_, _, _, rfl, rfl, hR.frame (w1.ok.tr w2.ok) w3.ok⟩
  · rw [if_neg (show ¬ nI (pcF 32 s) ≤ (8 : Int32) from nI_ge (a := 8) (by omega) (by omega)), if_neg (show ¬ nI (pcF 32 s) ≤ (8 : Int32) from nI_ge (a := 8) (by omega) (by omega)), fd_C6, bdI_s, fd_M6, bdI_s]
    exact ⟨_, _, _, rfl, rfl, hR.fd 6 (by omega)⟩
