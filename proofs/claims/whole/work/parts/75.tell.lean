/-! PURE: which print tells most -/
theorem FW.congr {on on2 : Nat → Nat → Bool} {s k : Nat} (h : FW on s k) (e : ∀ p q, s.testBit p = true → s.testBit q = true → p ≠ q → on p q = on2 p q) : FW on2 s k := by
  have c : ∀ (f g : Nat → Nat → Bool), (∀ p q, s.testBit p = true → s.testBit q = true → p ≠ q → f p q = g p q) → ∀ j, Col f s j → Col g s j := fun f g e j hc => by
    obtain ⟨c, h1, h2⟩ := hc
    exact ⟨c, h1, fun p q hp hq hne he => by rw [← e p q hp hq hne]; exact h2 p q hp hq hne he⟩
  exact ⟨c on on2 e k h.1, fun j hj => h.2 j (c on2 on (fun p q hp hq hne => (e p q hp hq hne).symm) j hj)⟩
def WT (u u2 : Mem) : Prop := u2.2 = u.2 ∧ ∀ c, c ≠ 7 → c ≠ 8 → c ≠ 9 → c ≠ 11 → u2.1 c = u.1 c
theorem WT.rf (u : Mem) : WT u u := ⟨rfl, fun _ _ _ _ _ => rfl⟩
theorem WT.tr {u u2 u3 : Mem} (h : WT u u2) (g : WT u2 u3) : WT u u3 := ⟨g.1.trans h.1, fun c a b d e => (g.2 c a b d e).trans (h.2 c a b d e)⟩
theorem WT.ok {u u2 : Mem} (h : WT u u2) : okC u u2 := fun i a _ _ => ⟨h.2 i (by omega) (by omega) (by omega) (by omega), by rw [h.1]⟩
theorem W89.wt {u u2 : Mem} (h : W89 u u2) : WT u u2 := ⟨h.1, fun c _ a b _ => h.2 c a b⟩
theorem WD.wt {u u2 : Mem} (h : WD u u2) : WT u u2 := ⟨h.1, fun c a _ _ b => h.2 c a b⟩
theorem WT.X {n : Nat} {X : Nat → PV} {sl : Int32} {u u2 : Mem} (h : WT u u2) (g : CX u n X sl) : CX u2 n X sl := by
  have e := h.2 4 (by decide) (by decide) (by decide) (by decide)
  refine ⟨g.1, by rw [e]; exact g.2.1, by rw [e]; exact g.2.2.1, fun p hp => ?_⟩
  rw [prC_eq (u2 := u2) (u := u) (h.2 _ (by omega) (by omega) (by omega) (by omega)) (by rw [h.1])]
  exact g.2.2.2 p hp
section
variable {n : Nat} {X : Nat → PV} {sl : Int32}
theorem on_ux {p a b : Nat} {Z : PV} (ha : a ≠ p) (hb : b ≠ p) : onW (uX X p Z) sl a b = onW X sl a b := by
  unfold onW cnW erW uX
  rw [if_neg ha, if_neg hb]
theorem cn_ux {p a b : Nat} {Z : PV} (ha : a ≠ p) (hb : b ≠ p) : cnW (uX X p Z) sl a b = cnW X sl a b := by
  unfold cnW uX
  rw [if_neg ha, if_neg hb]
theorem Wn_EF {p : Nat} (hp : p < n) {c c2 : Nat → Nat → Bool} (h : ∀ a b, a ≠ p → b ≠ p → c a b = c2 a b) (a b : Nat) : Wn p n c (EF n c2) a b = EF n c a b := by
  unfold Wn
  by_cases g : a ≠ b ∧ ((a = p ∧ b < n) ∨ (b = p ∧ a < n))
  · rw [if_pos g]
    unfold EF
    rw [decide_eq_true (by omega)]; rfl
  · rw [if_neg g]
    unfold EF
    by_cases e : a ≠ b ∧ a < n ∧ b < n
    · rw [h a b (by omega) (by omega)]
    · rw [decide_eq_false e]; rfl
theorem ab_eq (x : Int32) : (if 0 ≤ x then x else 0 - x) = if 0 ≤ x then x else -x := by rw [Int32.zero_sub]
theorem tell_L {now : Nat} (hF : FW (onW X sl) (2 ^ n - 1) now) (hn12 : n ≤ 12) : ∀ (m k p : Nat) (b g : Int32) (u v : Mem), p + k = n → k < m → CX u n X sl → MX v n X sl → LM u (EF n (cnW X sl)) (EF n (onW X sl)) → (b = -1 ∨ ∃ j, j < n ∧ b = nI j) → ∃ r u' v', F_X2_mostTelling_26 m u (nI (2 ^ n - 1)) (nI now) b g (nI p) = some (r, u') ∧ WT u u' ∧ W47 v v' ∧ ((r = -1 ∧ F_X7_tell_25 m v (nI (2 ^ n - 1)) (nI now) b g (nI p) = some (-1000000004, tM v' 3)) ∨ ∃ j, j < n ∧ r = nI j ∧ F_X7_tell_25 m v (nI (2 ^ n - 1)) (nI now) b g (nI p) = some (nI j, v')) := by
  have hpos := Nat.two_pow_pos n
  have hp2 := p2_le (p := n) (by omega)
  intro m
  induction m with
  | zero => intro k p b g u v _ h; exact absurd h (by omega)
  | succ m ih =>
    intro k p b g u v h1 hk hX hY hL hb
    unfold F_X2_mostTelling_26 F_X7_tell_25 F_X7_tell_136
    rw [hX.2.1, gd_c0, cl_0, hY.2.1]
    cases k with
    | zero =>
      rw [if_pos (nI_le (by omega) (by omega)), if_pos (nI_le (by omega) (by omega))]
      refine ⟨b, u, v, rfl, WT.rf u, W47.rf v, ?_⟩
      rcases hb with e | ⟨j, hj, e⟩
      · subst e
        refine Or.inl ⟨rfl, ?_⟩
        rw [if_neg (by decide), fd_M3, bdI_s]
      · subst e
        refine Or.inr ⟨j, hj, rfl, ?_⟩
        rw [if_pos (nI_pos' (by omega))]
    | succ k =>
      have hp : p < n := by omega
      have hp12 : p < 12 := by omega
      have pu := hX.2.2.2 p hp
      have pv := hY.2.2.2 p hp
      have eu : u.1 (28 + p) 3 = (X p).2.2.2.1 := by rw [← pu.1]; rfl
      have ev : v.1 1 (5 + 4 * p) = (X p).2.2.2.1 := by rw [← pv.1]; rfl
      unfold F_X2_mostTelling_136 F_X2_mostTelling_108 F_X7_tell_84 F_X7_tell_99 F_X7_tell_114 F_X7_tell_116
      unfold F_X2_mostTelling_136
      rw [if_neg (nI_ge (by omega) (by omega)), if_neg (nI_ge (by omega) (by omega)), gd_nI _ hp12 (by omega), cl_nI hp12, its_M3 hp12, bdI_s, pv.1, eu, nI_1]
      by_cases h3 : (X p).2.2.2.1 = 0
      · rw [if_pos h3, if_pos h3, gd_nI _ hp12 (by omega)]
        have okZ : okP ((X p).1, (X p).2.1, (X p).2.2.1, 1, (X p).2.2.2.2) := ⟨pu.2.1, pu.2.2.1, pu.2.2.2.1, Or.inr rfl, pu.2.2.2.2.2⟩
        have zC : prC (sI u (28 + p) 3 1) (28 + p) = ((X p).1, (X p).2.1, (X p).2.2.1, 1, (X p).2.2.2.2) := by rw [prC_3, pu.1]
        have zM : vM (sI v 1 (2 + 4 * p + 3) 1) 1 2 p = ((X p).1, (X p).2.1, (X p).2.2.1, 1, (X p).2.2.2.2) := by rw [vM_3, pv.1]
        have cx := (KC.rf 3 p u).cx hX hp zC okZ
        have mx := (KM.rf 3 p v).mx hY (by omega) hp zM okZ
        have hL1 : LM (sI u (28 + p) 3 1) (EF n (cnW X sl)) (EF n (onW X sl)) := hL.fr (funext fun j => sI_i (by omega)) (funext fun j => sI_i (by omega))
        obtain ⟨u1, e1, w1, l1⟩ := weighOne_C cx hL1 hp
        have l2 := l1.congr (fun a b _ _ => Wn_EF hp (fun a b ha hb => cn_ux ha hb) a b) (fun a b _ _ => Wn_EF hp (fun a b ha hb => on_ux ha hb) a b)
        obtain ⟨k', v1, f1, f2, f3⟩ := fewestOf_M mx (s := 2 ^ n - 1) (by omega) (by omega)
        have k12 := f2.le (by omega)
        have n12 := hF.le (by omega)
        rw [e1, bdV_s, gd_nI _ hp12 (by omega), show F_X7_sets v (nI p) 3 1 = some (sI v 1 (2 + 4 * p + 3) 1) from sets_M hp12 (w := 3) (by omega), bdV_s, f1, bdI_s, show F_X7_sets v1 (nI p) 3 0 = some (sI v1 1 (2 + 4 * p + 3) 0) from sets_M hp12 (w := 3) (by omega), bdV_s]
        have wv : W47 v (sI v1 1 (2 + 4 * p + 3) 0) := by
          refine ⟨f3.1, fun c a b d e => funext fun j => ?_⟩
          by_cases ec : c = 1
          · subst ec
            by_cases ej : j = 2 + 4 * p + 3
            · subst ej
              rw [sI_eq, show 2 + 4 * p + 3 = 5 + 4 * p by omega, ev, h3]
            · rw [sI_k ej, f3.2 1 (by decide) (by decide) (by decide) (by decide), sI_k ej]
          · rw [sI_i ec, f3.2 c a b d e, sI_i ec]
        have go : ∀ (y : Int32) (u2 : Mem), WD u1 u2 → y = (if 0 ≤ nI k' - nI now then nI k' - nI now else -(nI k' - nI now)) → ∃ r u' v', (bdV (F_X2_weighOne (sI u2 (28 + p) 3 0) (nI p)) fun u1 => if y ≤ g then F_X2_mostTelling_26 m u1 (nI (2 ^ n - 1)) (nI now) b g (nI (p + 1)) else F_X2_mostTelling_26 m u1 (nI (2 ^ n - 1)) (nI now) (nI p) y (nI (p + 1))) = some (r, u') ∧ WT u u' ∧ W47 v v' ∧ ((r = -1 ∧ (if 0 ≤ nI k' - nI now then (if nI k' - nI now ≤ g then (if nI k' - nI now ≤ g then F_X7_tell_25 m (sI v1 1 (2 + 4 * p + 3) 0) (nI (2 ^ n - 1)) (nI now) b g (nI (p + 1)) else F_X7_tell_25 m (sI v1 1 (2 + 4 * p + 3) 0) (nI (2 ^ n - 1)) (nI now) b (nI k' - nI now) (nI (p + 1))) else (if nI k' - nI now ≤ g then F_X7_tell_25 m (sI v1 1 (2 + 4 * p + 3) 0) (nI (2 ^ n - 1)) (nI now) (nI p) g (nI (p + 1)) else F_X7_tell_25 m (sI v1 1 (2 + 4 * p + 3) 0) (nI (2 ^ n - 1)) (nI now) (nI p) (nI k' - nI now) (nI (p + 1)))) else (if -(nI k' - nI now) ≤ g then (if -(nI k' - nI now) ≤ g then F_X7_tell_25 m (sI v1 1 (2 + 4 * p + 3) 0) (nI (2 ^ n - 1)) (nI now) b g (nI (p + 1)) else F_X7_tell_25 m (sI v1 1 (2 + 4 * p + 3) 0) (nI (2 ^ n - 1)) (nI now) b (-(nI k' - nI now)) (nI (p + 1))) else (if -(nI k' - nI now) ≤ g then F_X7_tell_25 m (sI v1 1 (2 + 4 * p + 3) 0) (nI (2 ^ n - 1)) (nI now) (nI p) g (nI (p + 1)) else F_X7_tell_25 m (sI v1 1 (2 + 4 * p + 3) 0) (nI (2 ^ n - 1)) (nI now) (nI p) (-(nI k' - nI now)) (nI (p + 1))))) = some (-1000000004, tM v' 3)) ∨ ∃ j, j < n ∧ r = nI j ∧ (if 0 ≤ nI k' - nI now then (if nI k' - nI now ≤ g then (if nI k' - nI now ≤ g then F_X7_tell_25 m (sI v1 1 (2 + 4 * p + 3) 0) (nI (2 ^ n - 1)) (nI now) b g (nI (p + 1)) else F_X7_tell_25 m (sI v1 1 (2 + 4 * p + 3) 0) (nI (2 ^ n - 1)) (nI now) b (nI k' - nI now) (nI (p + 1))) else (if nI k' - nI now ≤ g then F_X7_tell_25 m (sI v1 1 (2 + 4 * p + 3) 0) (nI (2 ^ n - 1)) (nI now) (nI p) g (nI (p + 1)) else F_X7_tell_25 m (sI v1 1 (2 + 4 * p + 3) 0) (nI (2 ^ n - 1)) (nI now) (nI p) (nI k' - nI now) (nI (p + 1)))) else (if -(nI k' - nI now) ≤ g then (if -(nI k' - nI now) ≤ g then F_X7_tell_25 m (sI v1 1 (2 + 4 * p + 3) 0) (nI (2 ^ n - 1)) (nI now) b g (nI (p + 1)) else F_X7_tell_25 m (sI v1 1 (2 + 4 * p + 3) 0) (nI (2 ^ n - 1)) (nI now) b (-(nI k' - nI now)) (nI (p + 1))) else (if -(nI k' - nI now) ≤ g then F_X7_tell_25 m (sI v1 1 (2 + 4 * p + 3) 0) (nI (2 ^ n - 1)) (nI now) (nI p) g (nI (p + 1)) else F_X7_tell_25 m (sI v1 1 (2 + 4 * p + 3) 0) (nI (2 ^ n - 1)) (nI now) (nI p) (-(nI k' - nI now)) (nI (p + 1))))) = some (nI j, v')) := by
          intro y u2 w2 hy
          have wu : WT u (sI u2 (28 + p) 3 0) := by
            refine ⟨w2.1.trans w1.1, fun c a b d e => funext fun j => ?_⟩
            by_cases ec : c = 28 + p
            · subst ec
              by_cases ej : j = 3
              · subst ej
                rw [sI_eq, eu, h3]
              · rw [sI_k ej, w2.2 _ (by omega) (by omega), w1.2 _ (by omega) (by omega), sI_k ej]
            · rw [sI_i ec, w2.2 c a e, w1.2 c b d, sI_i ec]
          have l3 : LM (sI u2 (28 + p) 3 0) (EF n (cnW (uX X p ((X p).1, (X p).2.1, (X p).2.2.1, 1, (X p).2.2.2.2)) sl)) (EF n (onW (uX X p ((X p).1, (X p).2.1, (X p).2.2.1, 1, (X p).2.2.2.2)) sl)) := (w2.LM l2).fr (funext fun j => sI_i (by omega)) (funext fun j => sI_i (by omega))
          obtain ⟨u3, e3, w3, l4⟩ := weighOne_C (wu.X hX) l3 hp
          have l5 := l4.congr (fun a b _ _ => Wn_EF hp (fun a b ha hb => (cn_ux ha hb).symm) a b) (fun a b _ _ => Wn_EF hp (fun a b ha hb => (on_ux ha hb).symm) a b)
          rw [e3, bdV_s]
          have wt3 := wu.tr w3.wt
          have next : ∀ b' g', (b' = -1 ∨ ∃ j, j < n ∧ b' = nI j) → ∃ r u' v', F_X2_mostTelling_26 m u3 (nI (2 ^ n - 1)) (nI now) b' g' (nI (p + 1)) = some (r, u') ∧ WT u u' ∧ W47 v v' ∧ ((r = -1 ∧ F_X7_tell_25 m (sI v1 1 (2 + 4 * p + 3) 0) (nI (2 ^ n - 1)) (nI now) b' g' (nI (p + 1)) = some (-1000000004, tM v' 3)) ∨ ∃ j, j < n ∧ r = nI j ∧ F_X7_tell_25 m (sI v1 1 (2 + 4 * p + 3) 0) (nI (2 ^ n - 1)) (nI now) b' g' (nI (p + 1)) = some (nI j, v')) := fun b' g' hb' => by
            obtain ⟨r, u', v', a1, a2, a3, a4⟩ := ih k (p + 1) b' g' u3 (sI v1 1 (2 + 4 * p + 3) 0) (by omega) (by omega) (wt3.X hX) (wv.mx hY) l5 hb'
            exact ⟨r, u', v', a1, wt3.tr a2, wv.tr a3, a4⟩
          by_cases h0 : 0 ≤ nI k' - nI now
          · rw [if_pos h0] at hy
            simp only [if_pos h0]
            rw [← hy]
            by_cases hg : y ≤ g
            · simp only [if_pos hg]
              exact next b g hb
            · simp only [if_neg hg]
              exact next (nI p) y (Or.inr ⟨p, hp, rfl⟩)
          · rw [if_neg h0] at hy
            simp only [if_neg h0]
            rw [← hy]
            by_cases hg : y ≤ g
            · simp only [if_pos hg]
              exact next b g hb
            · simp only [if_neg hg]
              exact next (nI p) y (Or.inr ⟨p, hp, rfl⟩)
        by_cases hm : u1.1 9 p = u.1 9 p
        · rw [if_pos hm]
          have same : k' = now := by
            refine f2.uq (hF.congr (fun a b ha hb hne => ?_))
            have bn : ∀ q, (2 ^ n - 1).testBit q = true → q < n := fun q hq => by
              rw [Nat.testBit_two_pow_sub_one, decide_eq_true_eq] at hq; exact hq
            have row : ∀ q, q < n → q ≠ p → onW X sl p q = onW (uX X p ((X p).1, (X p).2.1, (X p).2.2.1, 1, (X p).2.2.2.2)) sl p q := fun q hq hne => by
              obtain ⟨x, hx, ex, tx⟩ := (hL p hp12).2
              obtain ⟨y, hy, ey, ty⟩ := (l2 p hp12).2
              rw [hm, ex] at ey
              have exy : x = y := (nI_eq (by omega) (by omega)).mp ey
              subst exy
              have t1 := tx q (by omega)
              have t2 := ty q (by omega)
              rw [t1] at t2
              unfold EF at t2
              rw [decide_eq_true (show p ≠ q ∧ p < n ∧ q < n from ⟨fun z => hne z.symm, hp, hq⟩), Bool.true_and, Bool.true_and] at t2
              exact t2
            by_cases ea : a = p
            · subst ea; exact row b (bn b hb) (fun z => hne z.symm)
            · by_cases eb : b = p
              · subst eb; rw [onW_sym hne, onW_sym (X := uX X b _) hne]; exact row a (bn a ha) hne
              · exact (on_ux ea eb).symm
          exact go 0 u1 (WD.rf u1) (by rw [same, Int32.sub_self]; rfl)
        · rw [if_neg hm]
          obtain ⟨k2, u2, e2, w2, g2⟩ := fewest_C (s := 2 ^ n - 1) (fun p q h => onW_sym h) (by omega) (by omega) hn12 l2
          have ek := f2.uq g2
          subst ek
          rw [e2, bdI_s]
          exact go _ u2 w2 (ab_eq _)
      · rw [if_neg h3, if_neg h3]
        exact ih k (p + 1) b g u v (by omega) (by omega) hX hY hL hb
end
theorem ST26 : ST_26 Rel := by
  intro u v hR
  obtain ⟨n, hA⟩ := hR.1
  obtain ⟨hX, hY⟩ := hA.X
  have hn := hX.1
  have hpos := Nat.two_pow_pos n
  have hp2 := p2_le (p := n) (by omega)
  have ea : nI (2 ^ n) - 1 = nI (2 ^ n - 1) := pk_sub (a := 2 ^ n) (b := 1) (by omega)
  obtain ⟨u1, e1, w1, l1⟩ := weigh_C hX
  have cx1 := w1.X hX
  obtain ⟨k, u2, e2, w2, f2⟩ := fewest_C (s := 2 ^ n - 1) (fun p q h => onW_sym h) (by omega) (by omega) hn l1
  obtain ⟨k', v1, g1, f1, w3⟩ := fewestOf_M hY (s := 2 ^ n - 1) (by omega) (by omega)
  have ek := f1.uq f2
  subst ek
  have wt2 := w1.wt.tr w2.wt
  obtain ⟨r, u3, v3, a1, a2, a3, a4⟩ := tell_L f1 hn fu n 0 (-1) 0 u2 v1 (by omega) (by unfold fu; omega) (wt2.X hX) (w3.mx hY) (w2.LM l1) (Or.inl rfl)
  have z : nI 0 = (0 : Int32) := rfl
  rw [z] at a1 a4
  have cC : F_X2_mostTelling u1 = some (r, u3) := by
    unfold F_X2_mostTelling
    rw [cx1.2.1, bit_I n (by omega), ea, e2, bdI_s]
    exact a1
  have cM : F_X7_tell v = F_X7_tell_25 fu v1 (nI (2 ^ n - 1)) (nI k') (-1) 0 0 := by
    unfold F_X7_tell
    rw [gd_c0, cl_0, hY.2.1, bit_I n (by omega), ea, g1, bdI_s]
  have wu := (wt2.tr a2).ok
  have wm := (w3.tr a3).ok
  unfold F_X6_tell F_X6_printOr F_X6_printOr_14
  rw [e1, bdV_s, cC, bdI_s, cM]
  rcases a4 with ⟨er, b1⟩ | ⟨j, hj, er, b1⟩
  · subst er
    rw [if_pos rfl, fd_C3, bdI_s, bdI_s]
    exact ⟨_, _, _, rfl, b1, (hR.frame wu wm).fd 3 (by omega)⟩
  · subst er
    have ne : ¬ nI j = -1 := fun z => by
      have := nI_pos (n := j) (by omega)
      rw [z] at this
      exact this (by decide)
    rw [if_neg ne, bdI_s]
    exact ⟨_, _, _, rfl, b1, hR.frame wu wm⟩
