/-! PURE: the fewest rings -/
def Col (on : Nat → Nat → Bool) (s k : Nat) : Prop := ∃ c : Nat → Nat, (∀ p, s.testBit p = true → c p < k) ∧ ∀ p q, s.testBit p = true → s.testBit q = true → p ≠ q → c p = c q → on p q = true
def FW (on : Nat → Nat → Bool) (s k : Nat) : Prop := Col on s k ∧ ∀ j, Col on s j → k ≤ j
theorem FW.uq {on : Nat → Nat → Bool} {s a b : Nat} (h : FW on s a) (g : FW on s b) : a = b := by
  have h1 := h.2 b g.1
  have h2 := g.2 a h.1
  omega
theorem ct_inj {f : Nat → Bool} {a b : Nat} (ha : f a = true) (h : a < b) : ct f a < ct f b := by
  have h1 : ∀ k, a + 1 ≤ k → ct f (a + 1) ≤ ct f k := by
    intro k
    induction k with
    | zero => intro h; omega
    | succ k ih =>
      intro hk
      by_cases e : a = k
      · rw [e]; exact Nat.le_refl _
      · have := ih (by omega)
        rw [ct_s f k]; omega
  have := h1 b (by omega)
  rw [ct_s, ha, if_pos rfl] at this
  omega
theorem Col_pc {on : Nat → Nat → Bool} {s : Nat} (hs : s < 4096) : Col on s (pc s) := by
  have lt : ∀ p, s.testBit p = true → p < 12 := fun p hp => by
    by_cases z : p < 12
    · exact z
    · rw [tb_out (k := 12) hs (by omega)] at hp; exact absurd hp (by decide)
  refine ⟨fun p => ct (fun q => s.testBit q) p, fun p hp => ?_, fun p q hp hq hne he => ?_⟩
  · unfold pc
    rw [pc_ct hs]
    exact ct_inj (f := fun q => s.testBit q) hp (lt p hp)
  · rcases Nat.lt_or_gt_of_ne hne with h | h
    · have h1 : ct (fun q => s.testBit q) p < ct (fun q => s.testBit q) q := ct_inj (f := fun q => s.testBit q) hp h
      have h2 : ct (fun q => s.testBit q) p = ct (fun q => s.testBit q) q := he
      omega
    · have h1 : ct (fun q => s.testBit q) q < ct (fun q => s.testBit q) p := ct_inj (f := fun q => s.testBit q) hq h
      have h2 : ct (fun q => s.testBit q) p = ct (fun q => s.testBit q) q := he
      omega
/-! the class deals -/
def Ext (on : Nat → Nat → Bool) (s p : Nat) (c : Nat → Nat) (k : Nat) : Prop := ∃ d : Nat → Nat, (∀ q, q < p → s.testBit q = true → d q = c q) ∧ (∀ q, s.testBit q = true → d q < k) ∧ ∀ a b, s.testBit a = true → s.testBit b = true → a ≠ b → d a = d b → on a b = true
def VC (on : Nat → Nat → Bool) (s p : Nat) (c : Nat → Nat) (k : Nat) : Prop := (∀ q, q < p → s.testBit q = true → c q < k) ∧ ∀ a b, a < p → b < p → s.testBit a = true → s.testBit b = true → a ≠ b → c a = c b → on a b = true
def DL (u : Mem) (s p : Nat) (c : Nat → Nat) (k : Nat) : Prop := ∀ r, r < k → Row u 11 r (fun q => decide (q < p) && s.testBit q && decide (c q = r))
def WD (u u2 : Mem) : Prop := u2.2 = u.2 ∧ ∀ c, c ≠ 7 → c ≠ 11 → u2.1 c = u.1 c
theorem WD.rf (u : Mem) : WD u u := ⟨rfl, fun _ _ _ => rfl⟩
theorem WD.tr {u u2 u3 : Mem} (h : WD u u2) (g : WD u2 u3) : WD u u3 := ⟨g.1.trans h.1, fun c a b => (g.2 c a b).trans (h.2 c a b)⟩
theorem WD.ok {u u2 : Mem} (h : WD u u2) : okC u u2 := fun i a _ _ => ⟨h.2 i (by omega) (by omega), by rw [h.1]⟩
def uC (c : Nat → Nat) (p r : Nat) : Nat → Nat := fun q => if q = p then r else c q
theorem Ext.back {on : Nat → Nat → Bool} {s p r k : Nat} {c : Nat → Nat} (h : Ext on s (p + 1) (uC c p r) k) : Ext on s p c k := by
  obtain ⟨d, h1, h2, h3⟩ := h
  exact ⟨d, fun q hq hs => by rw [h1 q (by omega) hs]; unfold uC; rw [if_neg (by omega)], h2, h3⟩
theorem Ext.split {on : Nat → Nat → Bool} {s p w k : Nat} {c : Nat → Nat} (h : Ext on s p c k) (hp : s.testBit p = true) (hv : ∀ q, q < p → s.testBit q = true → c q < w) : (∃ r, r < w ∧ Ext on s (p + 1) (uC c p r) k) ∨ (w + 1 ≤ k ∧ Ext on s (p + 1) (uC c p w) k) := by
  obtain ⟨d, h1, h2, h3⟩ := h
  by_cases e : d p < w
  · refine Or.inl ⟨d p, e, d, fun q hq hs => ?_, h2, h3⟩
    unfold uC
    by_cases z : q = p
    · rw [if_pos z, z]
    · rw [if_neg z]; exact h1 q (by omega) hs
  · have hk := h2 p hp
    refine Or.inr ⟨by omega, fun q => if d q = d p then w else if d q = w then d p else d q, fun q hq hs => ?_, fun q hs => ?_, fun a b ha hb hne he => h3 a b ha hb hne ?_⟩
    · unfold uC
      by_cases z : q = p
      · show (if d q = d p then w else if d q = w then d p else d q) = if q = p then w else c q
        rw [if_pos z, if_pos (congrArg d z)]
      · have h5 := h1 q (by omega) hs
        have h6 := hv q (by omega) hs
        show (if d q = d p then w else if d q = w then d p else d q) = if q = p then w else c q
        rw [if_neg z, if_neg (by omega), if_neg (by omega), h5]
    · have h5 := h2 q hs
      show (if d q = d p then w else if d q = w then d p else d q) < k
      split
      · omega
      · split <;> omega
    · have he : (if d a = d p then w else if d a = w then d p else d a) = (if d b = d p then w else if d b = w then d p else d b) := he
      revert he
      by_cases a1 : d a = d p
      · rw [if_pos a1]
        by_cases b1 : d b = d p
        · intro _; omega
        · rw [if_neg b1]
          by_cases b2 : d b = w
          · rw [if_pos b2]; intro he; omega
          · rw [if_neg b2]; intro he; omega
      · rw [if_neg a1]
        by_cases a2 : d a = w
        · rw [if_pos a2]
          by_cases b1 : d b = d p
          · rw [if_pos b1]; intro he; omega
          · rw [if_neg b1]
            by_cases b2 : d b = w
            · intro _; omega
            · rw [if_neg b2]; intro he; omega
        · rw [if_neg a2]
          by_cases b1 : d b = d p
          · rw [if_pos b1]; intro he; omega
          · rw [if_neg b1]
            by_cases b2 : d b = w
            · rw [if_pos b2]; intro he; omega
            · rw [if_neg b2]; intro he; omega
