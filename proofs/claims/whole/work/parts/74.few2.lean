/-! PURE: the fewest rings, both sides -/
theorem uC_p {c : Nat → Nat} {p r q : Nat} (h : q = p) : uC c p r q = r := if_pos h
theorem uC_n {c : Nat → Nat} {p r q : Nat} (h : ¬ q = p) : uC c p r q = c q := if_neg h
theorem WD.LM {u u2 : Mem} {f g : Nat → Nat → Bool} (h : WD u u2) (k : LM u f g) : LM u2 f g := k.fr (h.2 8 (by decide) (by decide)) (h.2 9 (by decide) (by decide))
theorem Ext.skip {on : Nat → Nat → Bool} {s p k : Nat} {c : Nat → Nat} (hp : s.testBit p = false) : Ext on s (p + 1) c k ↔ Ext on s p c k := by
  constructor
  · rintro ⟨d, h1, h2, h3⟩
    exact ⟨d, fun q hq hs => h1 q (by omega) hs, h2, h3⟩
  · rintro ⟨d, h1, h2, h3⟩
    refine ⟨d, fun q hq hs => ?_, h2, h3⟩
    by_cases e : q = p
    · rw [e, hp] at hs; exact absurd hs (by decide)
    · exact h1 q (by omega) hs
theorem VC.skip {on : Nat → Nat → Bool} {s p k : Nat} {c : Nat → Nat} (hp : s.testBit p = false) (h : VC on s p c k) : VC on s (p + 1) c k := by
  have lt : ∀ q, q < p + 1 → s.testBit q = true → q < p := fun q hq hs => by
    by_cases e : q = p
    · rw [e, hp] at hs; exact absurd hs (by decide)
    · omega
  exact ⟨fun q hq hs => h.1 q (lt q hq hs) hs, fun a b ha hb hsa hsb hne he => h.2 a b (lt a ha hsa) (lt b hb hsb) hsa hsb hne he⟩
theorem DL.skip {u : Mem} {s p k : Nat} {c : Nat → Nat} (hp : s.testBit p = false) : DL u s p c k ↔ DL u s (p + 1) c k := by
  have e : ∀ r q, (decide (q < p) && s.testBit q && decide (c q = r)) = (decide (q < p + 1) && s.testBit q && decide (c q = r)) := fun r q => by
    by_cases z : q = p
    · rw [z, hp]; simp
    · exact congrArg (fun b => b && s.testBit q && decide (c q = r)) (decide_eq_decide.mpr (by omega))
  exact ⟨fun h r hr => (h r hr).congr rfl (fun q _ => e r q), fun h r hr => (h r hr).congr rfl (fun q _ => (e r q).symm)⟩
theorem VC.put {on : Nat → Nat → Bool} {s p w r w2 : Nat} {c : Nat → Nat} (hsym : ∀ p q, p ≠ q → on p q = on q p) (h : VC on s p c w) (hc : ∀ q, q < p → s.testBit q = true → c q = r → on p q = true) (hr : r < w2) (hw : w ≤ w2) : VC on s (p + 1) (uC c p r) w2 := by
  refine ⟨fun q hq hs => ?_, fun a b ha hb hsa hsb hne he => ?_⟩
  · by_cases e : q = p
    · rw [uC_p e]; exact hr
    · rw [uC_n e]; have := h.1 q (by omega) hs; omega
  · by_cases ea : a = p
    · rw [uC_p ea, uC_n (show ¬ b = p by omega)] at he
      rw [ea]; exact hc b (by omega) hsb he.symm
    · rw [uC_n ea] at he
      by_cases eb : b = p
      · rw [uC_p eb] at he
        rw [hsym a b hne, eb]; exact hc a (by omega) hsa he
      · rw [uC_n eb] at he
        exact h.2 a b (by omega) (by omega) hsa hsb hne he
theorem uC_ne {s p r r2 : Nat} {c : Nat → Nat} (h : r2 ≠ r) (q : Nat) : (decide (q < p + 1) && s.testBit q && decide (uC c p r q = r2)) = (decide (q < p) && s.testBit q && decide (c q = r2)) := by
  by_cases e : q = p
  · rw [uC_p e, decide_eq_false (show ¬ q < p by omega), decide_eq_false (show ¬ r = r2 from fun z => h z.symm)]; simp
  · rw [uC_n e]; exact congrArg (fun b => b && s.testBit q && decide (c q = r2)) (decide_eq_decide.mpr (by omega))
theorem uC_eq {s p r : Nat} {c : Nat → Nat} (hp : s.testBit p = true) (q : Nat) : (decide (q < p + 1) && s.testBit q && decide (uC c p r q = r)) = if q = p then true else (decide (q < p) && s.testBit q && decide (c q = r)) := by
  by_cases e : q = p
  · rw [uC_p e, if_pos e, e, hp, decide_eq_true (show p < p + 1 by omega)]; simp
  · rw [uC_n e, if_neg e]; exact congrArg (fun b => b && s.testBit q && decide (c q = r)) (decide_eq_decide.mpr (by omega))
theorem row_sub {u : Mem} {c p c2 p2 : Nat} {g h : Nat → Bool} (a : Row u c p g) (b : Row u c2 p2 h) : (u.1 c p &&& (u.1 c2 p2 ^^^ -1) = 0) ↔ ∀ q, q < 12 → g q = true → h q = true := by
  obtain ⟨x, hx, ex, tx⟩ := a
  obtain ⟨y, hy, ey, ty⟩ := b
  rw [ex, ey, dif_I, nI0 (Nat.lt_of_le_of_lt (dif_le _ _) hx), sub_dif hx]
  constructor
  · intro k q hq hg
    rw [← ty q hq]
    exact k q (by rw [tx q hq]; exact hg)
  · intro k q hq
    by_cases z : q < 12
    · rw [ty q z]; rw [tx q z] at hq; exact k q z hq
    · rw [tb_out (k := 12) hx (by omega)] at hq; exact absurd hq (by decide)
def DealIH (on f : Nat → Nat → Bool) (n s fuel p : Nat) : Prop := ∀ (w : Nat) (c : Nat → Nat) (B : Nat) (u : Mem), w ≤ p → B ≤ 32 → u.1 7 9 = nI B → LM u f (EF n on) → VC on s p c w → DL u s p c w → ∃ u' B', F_X2_deal fuel u (nI s) (nI p) (nI w) = some u' ∧ WD u u' ∧ u'.1 7 9 = nI B' ∧ DL u' s p c w ∧ (B' = B ∨ (B' < B ∧ Ext on s p c B')) ∧ ∀ k, w ≤ k → Ext on s p c k → B' ≤ k
section
variable {on f : Nat → Nat → Bool} {n s : Nat}
theorem deal_42 (hsym : ∀ p q, p ≠ q → on p q = on q p) (hs : s < 2 ^ n) (hn : n ≤ 12) {fuel p w : Nat} {c : Nat → Nat} (IH : DealIH on f n s fuel (p + 1)) (hp : p < 12) (hps : s.testBit p = true) (hw : w ≤ p) (hV : VC on s p c w) : ∀ (m j r B : Nat) (u : Mem), r + j = w → j < m → B ≤ 32 → u.1 7 9 = nI B → LM u f (EF n on) → DL u s p c w → (∀ r', r' < r → ∀ k, w ≤ k → Ext on s (p + 1) (uC c p r') k → B ≤ k) → ∃ u' B', F_X2_deal_42 (F_X2_deal fuel) m u (nI s) (nI p) (nI w) (nI r) = some u' ∧ WD u u' ∧ u'.1 7 9 = nI B' ∧ DL u' s p c w ∧ (B' = B ∨ (B' < B ∧ Ext on s p c B')) ∧ ∀ k, w ≤ k → Ext on s p c k → B' ≤ k := by
  have bn : ∀ q, s.testBit q = true → q < n := fun q hq => by
    by_cases z : q < n
    · exact z
    · rw [tb_out hs (by omega)] at hq; exact absurd hq (by decide)
  intro m
  induction m with
  | zero => intro j r B u _ h; exact absurd h (by omega)
  | succ m ih =>
    intro j r B u h1 hj hB hu hL hD hr
    unfold F_X2_deal_42 F_X2_deal_139 F_X2_deal_107
    cases j with
    | zero =>
      have e : r = w := by omega
      subst e
      rw [if_pos (nI_le (Nat.le_refl r) (by omega)), if_neg (show ¬ (12 : Int32) ≤ nI r from nI_ge (b := 12) (by omega) (by omega)), gd_nI _ (show r < 12 by omega) (by omega), cl_nI (show r < 12 by omega), bit_I p (by omega), nI_1, nI_1]
      obtain ⟨u', B', e1, wd, hu', hD', hB', hk⟩ := IH (r + 1) (uC c p r) B (sI u 11 r (nI (2 ^ p))) (by omega) hB (by rw [sI_i (by decide)]; exact hu) (hL.fr (funext fun j => sI_i (by decide)) (funext fun j => sI_i (by decide))) (hV.put hsym (fun q hq hsq hcq => absurd (hV.1 q hq hsq) (by omega)) (by omega) (by omega)) (fun r2 h2 => by
        by_cases e : r2 = r
        · subst e
          refine ⟨2 ^ p, p2_lt hp, sI_eq, fun q hq => ?_⟩
          show (2 ^ p).testBit q = (decide (q < p + 1) && s.testBit q && decide (uC c p r2 q = r2))
          rw [uC_eq hps, Nat.testBit_two_pow]
          by_cases z : q = p
          · rw [if_pos z, decide_eq_true z.symm]
          · rw [if_neg z, decide_eq_false (fun y => z y.symm)]
            by_cases y : q < p
            · cases g : s.testBit q
              · simp
              · have := hV.1 q y g
                rw [decide_eq_false (show ¬ c q = r2 by omega)]; simp
            · rw [decide_eq_false y]; rfl
        · exact (hD r2 (by omega)).congr (sI_k e) (fun q _ => (uC_ne e q).symm))
      rw [e1, bdV_s]
      refine ⟨u', B', rfl, WD.tr (u2 := sI u 11 r (nI (2 ^ p))) ⟨rfl, fun c _ h => funext fun j => sI_i h⟩ wd, hu', fun r2 h2 => (hD' r2 (by omega)).congr rfl (fun q _ => uC_ne (by omega) q), ?_, fun k hwk he => ?_⟩
      · rcases hB' with z | ⟨z1, z2⟩
        · exact Or.inl z
        · exact Or.inr ⟨z1, z2.back⟩
      · rcases he.split hps hV.1 with ⟨r', hr', he'⟩ | ⟨hk1, he'⟩
        · have := hr r' hr' k hwk he'
          rcases hB' with z | z
          · omega
          · omega
        · exact hk k hk1 he'
    | succ j =>
      have hr12 : r < 12 := by omega
      rw [if_neg (nI_ge (by omega) (by omega)), gd_nI _ hr12 (by omega), gd_nI _ hp (by omega), cl_nI hr12, cl_nI hp]
      have hz := row_sub (hD r (by omega)) (hL p hp).2
      by_cases hc : u.1 11 r &&& (u.1 9 p ^^^ -1) = 0
      · rw [if_pos hc, gd_nI _ hr12 (by omega), gd_nI _ hr12 (by omega), bdV_s, nI_1, nI_1]
        have hon : ∀ q, q < p → s.testBit q = true → c q = r → on p q = true := fun q hq hsq hcq => by
          have := hz.mp hc q (by omega) (by rw [decide_eq_true hq, hsq, decide_eq_true hcq]; rfl)
          unfold EF at this
          rw [Bool.and_eq_true] at this
          exact this.2
        obtain ⟨x, hx, ex, tx⟩ := hD r (by omega)
        rw [ex, bit_I p (by omega), nx_or]
        obtain ⟨u2, B2, e1, wd, hu2, hD2, hB2, hk2⟩ := IH w (uC c p r) B (sI u 11 r (nI (x ||| 2 ^ p))) (by omega) hB (by rw [sI_i (by decide)]; exact hu) (hL.fr (funext fun j => sI_i (by decide)) (funext fun j => sI_i (by decide))) (hV.put hsym hon (by omega) (by omega)) (fun r2 h2 => by
          by_cases e : r2 = r
          · subst e
            refine ⟨x ||| 2 ^ p, or_lt12 hx (p2_lt hp), sI_eq, fun q hq => ?_⟩
            have tx : x.testBit q = (decide (q < p) && s.testBit q && decide (c q = r2)) := tx q hq
            show (x ||| 2 ^ p).testBit q = (decide (q < p + 1) && s.testBit q && decide (uC c p r2 q = r2))
            rw [uC_eq hps, Nat.testBit_or, Nat.testBit_two_pow]
            by_cases z : q = p
            · rw [if_pos z, decide_eq_true z.symm, Bool.or_true]
            · rw [if_neg z, decide_eq_false (fun y => z y.symm), Bool.or_false, tx]
          · exact (hD r2 h2).congr (sI_k e) (fun q _ => (uC_ne e q).symm))
        rw [e1, bdV_s]
        obtain ⟨y, hy, ey, ty⟩ := hD2 r (by omega)
        rw [ey, wo_C hp, bdI_s, gd_nI _ hr12 (by omega), gd_nI _ hr12 (by omega)]
        have hD3 : DL (sI u2 11 r (nI (dif y (2 ^ p)))) s p c w := fun r2 h2 => by
          by_cases e : r2 = r
          · subst e
            refine ⟨dif y (2 ^ p), Nat.lt_of_le_of_lt (dif_le _ _) hy, sI_eq, fun q hq => ?_⟩
            have ty : y.testBit q = (decide (q < p + 1) && s.testBit q && decide (uC c p r2 q = r2)) := ty q hq
            show (dif y (2 ^ p)).testBit q = (decide (q < p) && s.testBit q && decide (c q = r2))
            rw [dif_t hy, ty, uC_eq hps, Nat.testBit_two_pow]
            by_cases z : q = p
            · rw [if_pos z, decide_eq_true z.symm, decide_eq_false (show ¬ q < p by omega)]; rfl
            · rw [if_neg z, decide_eq_false (show ¬ p = q from fun y => z y.symm), Bool.not_false, Bool.and_true]
          · exact (hD2 r2 h2).congr (sI_k e) (fun q _ => uC_ne e q)
        have wd3 : WD u (sI u2 11 r (nI (dif y (2 ^ p)))) := WD.tr (u2 := sI u 11 r (nI (x ||| 2 ^ p))) ⟨rfl, fun c _ h => funext fun j => sI_i h⟩ (wd.tr ⟨rfl, fun c _ h => funext fun j => sI_i h⟩)
        have hBB : B2 ≤ B := by rcases hB2 with z | z <;> omega
        obtain ⟨u4, B4, e4, wd4, hu4, hD4, hB4, hk4⟩ := ih j (r + 1) B2 (sI u2 11 r (nI (dif y (2 ^ p)))) (by omega) (by omega) (by omega) (by rw [sI_i (by decide)]; exact hu2) (wd3.LM hL) hD3 (fun r' hr' k hwk he => by
          by_cases e : r' = r
          · subst e; exact hk2 k hwk he
          · have := hr r' (by omega) k hwk he; omega)
        refine ⟨u4, B4, e4, wd3.tr wd4, hu4, hD4, ?_, hk4⟩
        rcases hB4 with z | ⟨z1, z2⟩
        · rw [z]
          rcases hB2 with y | ⟨y1, y2⟩
          · exact Or.inl y
          · exact Or.inr ⟨y1, y2.back⟩
        · exact Or.inr ⟨by omega, z2⟩
      · rw [if_neg hc, nI_1]
        exact ih j (r + 1) B u (by omega) (by omega) hB hu hL hD (fun r' hr' k hwk he => by
          by_cases e : r' = r
          · subst e
            refine absurd (hz.mpr (fun q hq hg => ?_)) hc
            rw [Bool.and_eq_true, Bool.and_eq_true, decide_eq_true_eq, decide_eq_true_eq] at hg
            obtain ⟨⟨g1, g2⟩, g3⟩ := hg
            obtain ⟨d, d1, d2, d3⟩ := he
            have a1 := d1 q (by omega) g2
            have a2 := d1 p (by omega) hps
            rw [uC_n (show ¬ q = p by omega)] at a1
            rw [uC_p rfl] at a2
            unfold EF
            rw [decide_eq_true (show p ≠ q ∧ p < n ∧ q < n from ⟨by omega, bn p hps, bn q g2⟩), d3 p q hps g2 (by omega) (by omega)]; rfl
          · exact hr r' (by omega) k hwk he)
theorem deal_C (hsym : ∀ p q, p ≠ q → on p q = on q p) (hs : s < 2 ^ n) (hs2 : s < 4096) (hn : n ≤ 12) : ∀ (g p fuel : Nat), p + g = 12 → g < fuel → DealIH on f n s fuel p := by
  intro g
  induction g with
  | zero =>
    intro p fuel hp hf w c B u hw hB hu hL hV hD
    obtain ⟨fuel, rfl⟩ : ∃ k, fuel = k + 1 := ⟨fuel - 1, by omega⟩
    unfold F_X2_deal
    rw [hu]
    by_cases h : w < B
    · rw [if_pos (nI_lt h (by omega)), if_neg (show ¬ nI p < (12 : Int32) from nI_nlt (b := 12) (by omega) (by omega))]
      have lt : ∀ q, s.testBit q = true → q < p := fun q hq => by
        by_cases z : q < 12
        · omega
        · rw [tb_out (k := 12) hs2 (by omega)] at hq; exact absurd hq (by decide)
      exact ⟨_, w, rfl, ⟨rfl, fun c h _ => funext fun j => sI_i h⟩, sI_eq, fun r hr => (hD r hr).congr (sI_i (by decide)) (fun _ _ => rfl), Or.inr ⟨h, c, fun _ _ _ => rfl, fun q hq => hV.1 q (lt q hq) hq, fun a b ha hb => hV.2 a b (lt a ha) (lt b hb) ha hb⟩, fun k hk _ => hk⟩
    · rw [if_neg (nI_nlt (by omega) (by omega))]
      exact ⟨u, B, rfl, WD.rf u, hu, hD, Or.inl rfl, fun k hk _ => by omega⟩
  | succ g ih =>
    intro p fuel hp hf w c B u hw hB hu hL hV hD
    obtain ⟨fuel, rfl⟩ : ∃ k, fuel = k + 1 := ⟨fuel - 1, by omega⟩
    have IH := ih (p + 1) fuel (by omega) (by omega)
    unfold F_X2_deal
    rw [hu]
    by_cases h : w < B
    · rw [if_pos (nI_lt h (by omega)), if_pos (show nI p < (12 : Int32) from nI_lt (b := 12) (by omega) (by omega)), isIn_C hs2 (by omega), bdI_s]
      cases hb : s.testBit p
      · rw [if_pos (show bi false = 0 from rfl), nI_1]
        obtain ⟨u', B', e1, wd, hu', hD', hB', hk⟩ := IH w c B u (by omega) hB hu hL (hV.skip hb) ((DL.skip hb).mp hD)
        rw [e1, bdV_s]
        refine ⟨u', B', rfl, wd, hu', (DL.skip hb).mpr hD', ?_, fun k hwk he => hk k hwk ((Ext.skip hb).mpr he)⟩
        rcases hB' with z | ⟨z1, z2⟩
        · exact Or.inl z
        · exact Or.inr ⟨z1, (Ext.skip hb).mp z2⟩
      · rw [if_neg (show ¬ bi true = 0 by decide)]
        exact deal_42 hsym hs hn IH (by omega) hb hw hV fu w 0 B u (by omega) (by unfold fu; omega) hB hu hL hD (fun r' hr' => absurd hr' (by omega))
    · rw [if_neg (nI_nlt (by omega) (by omega))]
      exact ⟨u, B, rfl, WD.rf u, hu, hD, Or.inl rfl, fun k hk _ => by omega⟩
theorem pc_12 {x : Nat} (hx : x < 4096) : pc x ≤ 12 := by
  unfold pc
  rw [pc_ct hx]
  exact ct_le _ 12
theorem FW.le {k : Nat} (hs2 : s < 4096) (h : FW on s k) : k ≤ 12 := Nat.le_trans (h.2 _ (Col_pc hs2)) (pc_12 hs2)
theorem fewest_C {u : Mem} (hsym : ∀ p q, p ≠ q → on p q = on q p) (hs : s < 2 ^ n) (hs2 : s < 4096) (hn : n ≤ 12) (hL : LM u f (EF n on)) : ∃ k u', F_X2_fewestRings u (nI s) = some (nI k, u') ∧ WD u u' ∧ FW on s k := by
  have hp := pc_12 hs2
  obtain ⟨u', B', e1, wd, hu', -, hB', hk⟩ := deal_C (f := f) hsym hs hs2 hn 12 0 20 (by omega) (by omega) 0 (fun _ => 0) (pc s) (sI u 7 9 (nI (pcF 32 s))) (by omega) (by omega) sI_eq (hL.fr (funext fun j => sI_i (by decide)) (funext fun j => sI_i (by decide))) ⟨fun q h => absurd h (by omega), fun a b h => absurd h (by omega)⟩ (fun r h => absurd h (by omega))
  have z : nI 0 = (0 : Int32) := rfl
  rw [z] at e1
  refine ⟨B', u', ?_, WD.tr (u2 := sI u 7 9 (nI (pcF 32 s))) ⟨rfl, fun c h _ => funext fun j => sI_i h⟩ wd, ?_, fun j ⟨d, h1, h2⟩ => hk j (by omega) ⟨d, fun q h => absurd h (by omega), h1, h2⟩⟩
  · unfold F_X2_fewestRings
    rw [bj_C u hs2, bdI_s, e1, bdV_s, hu']
  · rcases hB' with y | ⟨-, d, -, h1, h2⟩
    · rw [y]; exact Col_pc hs2
    · exact ⟨d, h1, h2⟩
end
/-! the reference's table -/
theorem Sub.half {a b : Nat} (h : Sub a b) : Sub (a / 2) (b / 2) := fun q hq => by
  rw [← Nat.testBit_succ] at hq ⊢
  exact h (q + 1) hq
theorem Sub.odd {a b : Nat} (h : Sub a b) (ha : a % 2 = 1) : b % 2 = 1 := by
  have := h 0
  rw [Nat.testBit_zero, Nat.testBit_zero, decide_eq_true_eq, decide_eq_true_eq] at this
  exact this ha
theorem Sub.and {y s : Nat} (h : Sub y s) : y &&& s = y := Nat.eq_of_testBit_eq (fun q => by
  rw [Nat.testBit_and]
  cases hy : y.testBit q
  · rfl
  · rw [h q hy]; rfl)
theorem sub_next : ∀ N r w t, w < N → Sub w r → Sub t r → t < w → t ≤ (w - 1) &&& r := by
  intro N
  induction N with
  | zero => intro r w t h; omega
  | succ N ih =>
    intro r w t hN hw ht htw
    have e1 : ((w - 1) &&& r) / 2 = (w - 1) / 2 &&& r / 2 := Nat.and_div_two
    have e2 : ((w - 1) &&& r) % 2 = 1 ↔ (w - 1) % 2 = 1 ∧ r % 2 = 1 := Nat.and_mod_two_eq_one
    by_cases hb : w % 2 = 1
    · rw [show (w - 1) / 2 = w / 2 by omega, hw.half.and] at e1
      omega
    · by_cases hd : t / 2 < w / 2
      · have h := ih (r / 2) (w / 2) (t / 2) (by omega) hw.half ht.half hd
        rw [show (w - 1) / 2 = w / 2 - 1 by omega] at e1
        by_cases ho : t % 2 = 1
        · have := e2.mpr ⟨by omega, ht.odd ho⟩
          omega
        · omega
      · omega
theorem mk_lt {f : Nat → Bool} : ∀ k, mk f k < 2 ^ k := by
  intro k
  induction k with
  | zero => exact Nat.one_pos
  | succ k ih =>
    rw [mk_s]
    have h1 : mk f k < 2 ^ (k + 1) := Nat.lt_of_lt_of_le ih (Nat.pow_le_pow_right (by decide) (by omega))
    split
    · exact Nat.or_lt_two_pow h1 (Nat.pow_lt_pow_right (by decide) (by omega))
    · exact h1
theorem mk_t {f : Nat → Bool} : ∀ k q, (mk f k).testBit q = (decide (q < k) && f q) := by
  intro k
  induction k with
  | zero => intro q; show (0 : Nat).testBit q = _; rw [Nat.zero_testBit]; simp
  | succ k ih =>
    intro q
    rw [mk_s]
    by_cases e : q = k
    · subst e
      cases h : f q
      · rw [if_neg (show ¬ false = true by decide), ih]; simp
      · rw [if_pos rfl, Nat.testBit_or, Nat.testBit_two_pow]; simp
    · have : decide (q < k + 1) = decide (q < k) := decide_eq_decide.mpr (by omega)
      rw [this]
      split
      · rw [Nat.testBit_or, Nat.testBit_two_pow, ih, decide_eq_false (show ¬ k = q from fun z => e z.symm), Bool.or_false]
      · exact ih q
section
variable {on : Nat → Nat → Bool} {n : Nat}
theorem Col.mono {s j k : Nat} (h : Col on s j) (hjk : j ≤ k) : Col on s k := by
  obtain ⟨c, h1, h2⟩ := h
  exact ⟨c, fun p hp => Nat.lt_of_lt_of_le (h1 p hp) hjk, h2⟩
theorem Col.parts {y r p j : Nat} (hy : y < 4096) (hp : y.testBit p = true) (hr : ∀ q, r.testBit q = (y.testBit q && decide (q ≠ p))) (h : Col on y j) : ∃ t, Sub t r ∧ RG on n (t ||| 2 ^ p) = true ∧ Col on (dif r t) (j - 1) ∧ 1 ≤ j := by
  obtain ⟨c, h1, h2⟩ := h
  have hr4 : r < 4096 := Nat.lt_of_le_of_lt (Sub.le (fun q hq => by rw [hr, Bool.and_eq_true] at hq; exact hq.1)) hy
  have hcp := h1 p hp
  have tt : ∀ q, (mk (fun q => r.testBit q && decide (c q = c p)) 12).testBit q = true ↔ r.testBit q = true ∧ c q = c p := fun q => by
    rw [mk_t, Bool.and_eq_true, Bool.and_eq_true, decide_eq_true_eq, decide_eq_true_eq]
    refine ⟨fun z => z.2, fun z => ⟨?_, z⟩⟩
    by_cases e : q < 12
    · exact e
    · rw [tb_out (k := 12) hr4 (by omega)] at z; exact absurd z.1 (by decide)
  have ry : ∀ q, r.testBit q = true → y.testBit q = true ∧ q ≠ p := fun q hq => by
    rw [hr, Bool.and_eq_true, decide_eq_true_eq] at hq; exact hq
  refine ⟨mk (fun q => r.testBit q && decide (c q = c p)) 12, fun q hq => ((tt q).mp hq).1, RG_iff.mpr (fun a b _ _ ha hb hne => ?_), ⟨fun q => if c q = j - 1 then c p else c q, fun q hq => ?_, fun a b ha hb hne he => ?_⟩, by omega⟩
  · have key : ∀ a, (mk (fun q => r.testBit q && decide (c q = c p)) 12 ||| 2 ^ p).testBit a = true → y.testBit a = true ∧ c a = c p := fun a ha => by
      rw [Nat.testBit_or, Bool.or_eq_true, tt, Nat.testBit_two_pow, decide_eq_true_eq] at ha
      rcases ha with z | z
      · exact ⟨(ry a z.1).1, z.2⟩
      · rw [← z]; exact ⟨hp, rfl⟩
    have ka := key a ha
    have kb := key b hb
    exact h2 a b ka.1 kb.1 hne (by rw [ka.2, kb.2])
  · rw [dif_t hr4, Bool.and_eq_true] at hq
    have g1 := ry q hq.1
    have g2 : ¬ c q = c p := fun z => by
      have : (mk (fun q => r.testBit q && decide (c q = c p)) 12).testBit q = true := (tt q).mpr ⟨hq.1, z⟩
      rw [this] at hq; exact absurd hq.2 (by decide)
    have g3 := h1 q g1.1
    show (if c q = j - 1 then c p else c q) < j - 1
    split <;> omega
  · have kk : ∀ q, (dif r (mk (fun q => r.testBit q && decide (c q = c p)) 12)).testBit q = true → y.testBit q = true ∧ c q ≠ c p := fun q hq => by
      rw [dif_t hr4, Bool.and_eq_true] at hq
      refine ⟨(ry q hq.1).1, fun z => ?_⟩
      have : (mk (fun q => r.testBit q && decide (c q = c p)) 12).testBit q = true := (tt q).mpr ⟨hq.1, z⟩
      rw [this] at hq; exact absurd hq.2 (by decide)
    have ka := kk a ha
    have kb := kk b hb
    refine h2 a b ka.1 kb.1 hne ?_
    have he : (if c a = j - 1 then c p else c a) = (if c b = j - 1 then c p else c b) := he
    by_cases ea : c a = j - 1
    · rw [if_pos ea] at he
      by_cases eb : c b = j - 1
      · omega
      · rw [if_neg eb] at he; omega
    · rw [if_neg ea] at he
      by_cases eb : c b = j - 1
      · rw [if_pos eb] at he; omega
      · rw [if_neg eb] at he; exact he
theorem Col.join {y r t p k : Nat} (hyn : y < 2 ^ n) (hy : y < 4096) (hp : y.testBit p = true) (hr : ∀ q, r.testBit q = (y.testBit q && decide (q ≠ p))) (ht : Sub t r) (hg : RG on n (t ||| 2 ^ p) = true) (h : Col on (dif r t) k) : Col on y (1 + k) := by
  obtain ⟨c, h1, h2⟩ := h
  have hr4 : r < 4096 := Nat.lt_of_le_of_lt (Sub.le (fun q hq => by rw [hr, Bool.and_eq_true] at hq; exact hq.1)) hy
  have bn : ∀ q, y.testBit q = true → q < n := fun q hq => by
    by_cases z : q < n
    · exact z
    · rw [tb_out hyn (by omega)] at hq; exact absurd hq (by decide)
  have out : ∀ q, y.testBit q = true → (t ||| 2 ^ p).testBit q = false → (dif r t).testBit q = true := fun q hq hn => by
    rw [Nat.testBit_or, Nat.testBit_two_pow, Bool.or_eq_false_iff, decide_eq_false_iff_not] at hn
    rw [dif_t hr4, hr, hq, hn.1, decide_eq_true (show q ≠ p from fun z => hn.2 z.symm)]; rfl
  refine ⟨fun q => if (t ||| 2 ^ p).testBit q = true then k else c q, fun q hq => ?_, fun a b ha hb hne he => ?_⟩
  · show (if (t ||| 2 ^ p).testBit q = true then k else c q) < 1 + k
    cases e : (t ||| 2 ^ p).testBit q
    · rw [if_neg (by decide)]; have := h1 q (out q hq e); omega
    · rw [if_pos rfl]; omega
  · have he : (if (t ||| 2 ^ p).testBit a = true then k else c a) = (if (t ||| 2 ^ p).testBit b = true then k else c b) := he
    cases ea : (t ||| 2 ^ p).testBit a <;> cases eb : (t ||| 2 ^ p).testBit b <;> rw [ea, eb] at he
    · rw [if_neg (by decide), if_neg (by decide)] at he
      exact h2 a b (out a ha ea) (out b hb eb) hne he
    · rw [if_neg (by decide), if_pos rfl] at he
      have := h1 a (out a ha ea); omega
    · rw [if_pos rfl, if_neg (by decide)] at he
      have := h1 b (out b hb eb); omega
    · exact RG_iff.mp hg a b (bn a ha) (bn b hb) ea eb hne
theorem lowest_ex {y : Nat} (h : y ≠ 0) : ∃ p, y.testBit p = true ∧ ∀ q, q < p → y.testBit q = false := by
  by_cases e : ∃ q, y.testBit q = true
  · obtain ⟨p, h1, h2⟩ := pk_least (fun q => y.testBit q = true) e
    exact ⟨p, h1, fun q hq => by
      cases z : y.testBit q
      · rfl
      · exact absurd z (h2 q hq)⟩
  · refine absurd (zero_t.mpr (fun q => ?_)) h
    cases z : y.testBit q
    · rfl
    · exact absurd ⟨q, z⟩ e
theorem low_I {y p : Nat} (h0 : 1 ≤ y) (hy : y < 4096) (hp : y.testBit p = true) (hl : ∀ q, q < p → y.testBit q = false) : nI y &&& (-(nI y)) = nI (2 ^ p) := by
  have e : -(nI y) = nI (y - 1) ^^^ -1 := by
    rw [Int32.xor_neg_one, Int32.not_eq_neg_add, show nI (y - 1) = nI y - 1 from (pk_sub (a := y) (b := 1) h0).symm, Int32.neg_sub]
    rw [Int32.sub_eq_add_neg, Int32.sub_eq_add_neg, Int32.add_comm 1, Int32.add_assoc, Int32.add_right_neg, Int32.add_zero]
  rw [e, dif_I]
  congr 1
  apply Nat.eq_of_testBit_eq
  intro q
  have hb := low_b p y hp hl q
  rw [Nat.testBit_and] at hb
  rw [dif_t hy, Nat.testBit_two_pow]
  by_cases z : p = q
  · rw [← z] at hb ⊢
    rw [hp, decide_eq_false (fun k => k rfl)] at hb
    rw [hp, decide_eq_true rfl]
    cases w : (y - 1).testBit p
    · rfl
    · rw [w] at hb; exact absurd hb (by decide)
  · rw [decide_eq_false z]
    rw [decide_eq_true (show q ≠ p from fun k => z k.symm), Bool.and_true] at hb
    cases w : y.testBit q
    · rfl
    · rw [w, Bool.true_and] at hb; rw [hb]; rfl
def TB (v : Mem) (on : Nat → Nat → Bool) (s y : Nat) : Prop := ∀ t, t < y → Sub t s → ∃ k, v.1 7 t = nI k ∧ FW on t k
theorem fo_49 {v : Mem} {s y p r : Nat} (hT : RT v n on) (hB : TB v on s y) (hs : s < 2 ^ n) (hs2 : s < 4096) (hys : Sub y s) (hp : y.testBit p = true) (hr : ∀ q, r.testBit q = (y.testBit q && decide (q ≠ p))) (k13 : Mem → Int32 → Int32 → Option (Int32 × Mem)) : ∀ (m w L : Nat), w + 1 < m → Sub w r → L ≤ 13 → Col on y L → (∀ t, Sub t r → w < t → RG on n (t ||| 2 ^ p) = true → ∀ k, FW on (dif r t) k → L ≤ 1 + k) → ∃ L', F_X7_fewestOf_49 k13 m v (nI s) (nI y) (nI (2 ^ p)) (nI r) (nI L) (nI w) 1 = k13 (sI v 7 y (nI L')) (nI s) (nI (y + 1)) ∧ FW on y L' := by
  have hyl := hys.le
  have hy : y < 4096 := by omega
  have ry : Sub r y := fun q hq => by rw [hr, Bool.and_eq_true] at hq; exact hq.1
  have hrl := ry.le
  have hr4 : r < 4096 := by omega
  have hrlt : r < y := by
    by_cases e : r = y
    · have := hr p
      rw [e, hp, decide_eq_false (fun k => k rfl)] at this
      exact absurd this (by decide)
    · omega
  have hp12 : p < 12 := by
    by_cases z : p < 12
    · exact z
    · rw [tb_out (k := 12) hy (by omega)] at hp; exact absurd hp (by decide)
  intro m
  induction m with
  | zero => intro w L h; omega
  | succ m ih =>
    intro w L hm hw hL hC hpre
    have hwl := hw.le
    have hw4 : w < 4096 := by omega
    have hor : Sub (w ||| 2 ^ p) y := fun q hq => by
      rw [Nat.testBit_or, Nat.testBit_two_pow, Bool.or_eq_true, decide_eq_true_eq] at hq
      rcases hq with z | z
      · exact ry q (hw q z)
      · rw [← z]; exact hp
    have hol := hor.le
    have hdl := dif_le r w
    have sd : Sub (dif r w) s := fun q hq => hys q (ry q (dif_sub w hr4 q hq))
    obtain ⟨k, ek, fk⟩ := hB (dif r w) (by omega) sd
    have k12 := fk.le (by omega)
    unfold F_X7_fewestOf_49 F_X7_fewestOf_85 F_X7_fewestOf_101 F_X7_fewestOf_113
    rw [ite10, nx_or, gd_nI _ (show w ||| 2 ^ p < 4096 by omega) (by omega), nI_clamp (show w ||| 2 ^ p < 2 ^ 31 by omega), hT _ (by omega), dif_I, gd_nI _ (show dif r w < 4096 by omega) (by omega), nI_clamp (show dif r w < 2 ^ 31 by omega), ek, show (1 : Int32) + nI k = nI (1 + k) from nI_add 1 k]
    have fin : ∀ L2, L2 ≤ 13 → Col on y L2 → L2 ≤ L → (RG on n (w ||| 2 ^ p) = true → L2 ≤ 1 + k) → ∃ L', (if nI w = 0 then F_X7_fewestOf_49 k13 m v (nI s) (nI y) (nI (2 ^ p)) (nI r) (nI L2) ((nI w - 1) &&& nI r) 0 else F_X7_fewestOf_49 k13 m v (nI s) (nI y) (nI (2 ^ p)) (nI r) (nI L2) ((nI w - 1) &&& nI r) 1) = k13 (sI v 7 y (nI L')) (nI s) (nI (y + 1)) ∧ FW on y L' := by
      intro L2 h2 hC2 hle hk2
      have hall : ∀ t, Sub t r → (w = t ∨ w < t) → RG on n (t ||| 2 ^ p) = true → ∀ k, FW on (dif r t) k → L2 ≤ 1 + k := fun t ht hwt hrt k' hk' => by
        rcases hwt with z | z
        · subst z
          have := hk'.uq fk
          rw [this]; exact hk2 hrt
        · have := hpre t ht z hrt k' hk'
          omega
      by_cases e : w = 0
      · subst e
        rw [if_pos (show nI 0 = (0 : Int32) from rfl)]
        refine ⟨L2, ?_, hC2, fun j hj => ?_⟩
        · cases m with
          | zero => exact absurd hm (by omega)
          | succ m =>
            unfold F_X7_fewestOf_49 F_X7_fewestOf_135
            rw [ite00, gd_nI _ hy (by omega), nI_clamp (show y < 2 ^ 31 by omega), nI_1]
        · obtain ⟨t, t1, t2, t3, t4⟩ := hj.parts (n := n) hy hp hr
          have hd4 := dif_le r t
          obtain ⟨k', ek', fk'⟩ := hB (dif r t) (by omega) (fun q hq => hys q (ry q (dif_sub t hr4 q hq)))
          have a1 := hall t t1 (by omega) t2 k' fk'
          have a2 := fk'.2 _ t3
          omega
      · rw [if_neg (fun z => e ((nI0 hw4).mp z)), show nI w - 1 = nI (w - 1) from pk_sub (a := w) (b := 1) (by omega), nx_and]
        have hlt : (w - 1) &&& r ≤ w - 1 := Nat.and_le_left
        exact ih ((w - 1) &&& r) L2 (by omega) (fun q hq => by rw [Nat.testBit_and, Bool.and_eq_true] at hq; exact hq.2) h2 hC2 (fun t ht hwt hrt k' hk' => hall t ht (by
          by_cases z : t < w
          · have := sub_next (w + 1) r w t (by omega) hw ht z
            omega
          · omega) hrt k' hk')
    cases hg : RG on n (w ||| 2 ^ p)
    · rw [if_pos (show bi false = 0 from rfl), if_pos (show nI L ≤ (13 : Int32) from nI_le (b := 13) hL (by omega))]
      exact fin L hL hC (Nat.le_refl _) (fun z => by rw [hg] at z; exact absurd z (by decide))
    · rw [if_neg (show ¬ bi true = 0 by decide)]
      by_cases hc : L ≤ 1 + k
      · rw [if_pos (nI_le hc (by omega))]
        exact fin L hL hC (Nat.le_refl _) (fun _ => hc)
      · rw [if_neg (nI_ge (by omega) (by omega))]
        exact fin (1 + k) (by omega) (Col.join (by omega) hy hp hr hw hg fk.1) (by omega) (fun _ => Nat.le_refl _)
theorem fo_13 {s : Nat} (hs : s < 2 ^ n) (hs2 : s < 4096) : ∀ (m j y : Nat) (v : Mem), y + j = s + 1 → j < m → 1 ≤ y → RT v n on → TB v on s y → ∃ k v', F_X7_fewestOf_13 m v (nI s) (nI y) = some (nI k, v') ∧ FW on s k ∧ v'.2 = v.2 ∧ ∀ c, c ≠ 7 → v'.1 c = v.1 c := by
  intro m
  induction m with
  | zero => intro j y v _ h; exact absurd h (by omega)
  | succ m ih =>
    intro j y v h1 hj hy1 hT hB
    unfold F_X7_fewestOf_13
    cases j with
    | zero =>
      obtain ⟨k, ek, fk⟩ := hB s (by omega) (Sub.rf s)
      rw [if_pos (nI_lt (by omega) (by omega)), gd_nI _ hs2 (by omega), nI_clamp (by omega), ek]
      exact ⟨k, v, rfl, fk, rfl, fun _ _ => rfl⟩
    | succ j =>
      have hy4 : y < 4096 := by omega
      rw [if_neg (nI_nlt (by omega) (by omega)), dif_I]
      have hz : nI (dif y s) = 0 ↔ Sub y s := by rw [nI0 (Nat.lt_of_le_of_lt (dif_le y s) hy4), sub_dif hy4]
      by_cases hsub : Sub y s
      · obtain ⟨p, hp, hl⟩ := lowest_ex (show y ≠ 0 by omega)
        have hand := and_sub1_lt (n := y) (by omega)
        have p4 := pc_12 hy4
        rw [if_pos (hz.mpr hsub), low_I hy1 hy4 hp hl, show nI y - 1 = nI (y - 1) from pk_sub (a := y) (b := 1) hy1, nx_and]
        obtain ⟨L', e1, f1⟩ := fo_49 hT hB hs hs2 hsub hp (low_b p y hp hl) (F_X7_fewestOf_13 m) fu (y &&& (y - 1)) 13 (by unfold fu; omega) (Sub.rf _) (by omega) ((Col_pc hy4).mono (by omega)) (fun t ht hlt => absurd ht.le (by omega))
        obtain ⟨k, v', e2, f2, f3, f4⟩ := ih j (y + 1) (sI v 7 y (nI L')) (by omega) (by omega) (by omega) (fun t ht => by rw [sI_i (by decide)]; exact hT t ht) (fun t ht hts => by
          by_cases e : t = y
          · subst e; exact ⟨L', sI_eq, f1⟩
          · obtain ⟨k, a, b⟩ := hB t (by omega) hts
            exact ⟨k, by rw [sI_k e]; exact a, b⟩)
        exact ⟨k, v', e1.trans e2, f2, f3, fun c hc => (f4 c hc).trans (funext fun j => sI_i hc)⟩
      · unfold F_X7_fewestOf_135
        rw [if_neg (fun z => hsub (hz.mp z)), nI_1]
        exact ih j (y + 1) v (by omega) (by omega) (by omega) hT (fun t ht hts => hB t (by
          by_cases e : t = y
          · subst e; exact absurd hts hsub
          · omega) hts)
def W47 (v v2 : Mem) : Prop := v2.2 = v.2 ∧ ∀ c, c ≠ 4 → c ≠ 5 → c ≠ 6 → c ≠ 7 → v2.1 c = v.1 c
theorem W47.rf (v : Mem) : W47 v v := ⟨rfl, fun _ _ _ _ _ => rfl⟩
theorem W47.tr {u u2 u3 : Mem} (h : W47 u u2) (g : W47 u2 u3) : W47 u u3 := ⟨g.1.trans h.1, fun c a b d e => (g.2 c a b d e).trans (h.2 c a b d e)⟩
theorem W47.ok {v v2 : Mem} (h : W47 v v2) : okM v v2 := ok4567 h.1 h.2
end
theorem W47.mx {n : Nat} {X : Nat → PV} {sl : Int32} {v v2 : Mem} (h : W47 v v2) (g : MX v n X sl) : MX v2 n X sl := g.fr (by rw [h.1]) (h.2 1 (by decide) (by decide) (by decide) (by decide))
theorem gd_40 {β : Type} (x : Option β) : gd 0 4096 x = x := gd_nI (n := 0) x (by omega) (by omega)
theorem fewestOf_M {n s : Nat} {X : Nat → PV} {sl : Int32} {v : Mem} (hX : MX v n X sl) (hs : s < 2 ^ n) (hs2 : s < 4096) : ∃ k v', F_X7_fewestOf v (nI s) = some (nI k, v') ∧ FW (onW X sl) s k ∧ W47 v v' := by
  obtain ⟨v1, e1, w1, -, -, r1⟩ := findRings_M hX
  obtain ⟨k, v2, e2, f2, f3, f4⟩ := fo_13 hs hs2 (on := onW X sl) fu s 1 (sI v1 7 0 0) (by omega) (by unfold fu; omega) (by omega) (fun t ht => by rw [sI_i (by decide)]; exact r1 t ht) (fun t ht _ => by
    have e : t = 0 := by omega
    subst e
    exact ⟨0, sI_eq, ⟨fun _ => 0, fun p h => by rw [Nat.zero_testBit] at h; exact absurd h (by decide), fun p q h => by rw [Nat.zero_testBit] at h; exact absurd h (by decide)⟩, fun j _ => Nat.zero_le j⟩)
  refine ⟨k, v2, ?_, f2, f3.trans w1.1, fun c h4 h5 h6 h7 => (f4 c h7).trans ((funext fun j => sI_i h7).trans (w1.2 c h4 h5 h6))⟩
  unfold F_X7_fewestOf
  rw [e1, bdV_s, gd_40, cl_0]
  exact e2
theorem ST17 : ST_17 Rel := by
  intro u v x1 hR
  obtain ⟨n, hA⟩ := hR.1
  obtain ⟨hX, hY⟩ := hA.X
  rcases set_cases hX.2.1 hY.2.1 hX.1 x1 with ⟨c, m⟩ | ⟨s, hs, hs2, rfl, c, m⟩
  · exact ⟨-1000000001, tC u 0, tM v 0, by unfold F_X6_fewest; rw [c]; rfl, by unfold F_X7_fewest F_X7_fewest_22; rw [m]; rfl, hR.fd 0 (by omega)⟩
  obtain ⟨u1, e1, w1, l1⟩ := weigh_C hX
  obtain ⟨k, u2, e2, w2, f2⟩ := fewest_C (fun p q h => onW_sym h) hs hs2 hX.1 l1
  obtain ⟨k', v1, g1, f1, w3⟩ := fewestOf_M hY hs hs2
  have e := f1.uq f2
  subst e
  refine ⟨nI k', u2, v1, ?_, ?_, hR.frame (w1.ok.tr w2.ok) w3.ok⟩
  · unfold F_X6_fewest
    rw [c, bdI_s, ite10, e1, bdV_s, e2, bdI_s]
  · unfold F_X7_fewest F_X7_fewest_22
    rw [m, bdI_s, ite10, g1, bdI_s]
