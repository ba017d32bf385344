/-! PURE: the best ring -/
def Sub (y s : Nat) : Prop := ∀ q, y.testBit q = true → s.testBit q = true
theorem Sub.le {y s : Nat} (h : Sub y s) : y ≤ s := by
  have e : y &&& s = y := Nat.eq_of_testBit_eq (fun q => by
    rw [Nat.testBit_and]
    cases hy : y.testBit q
    · rfl
    · rw [h q hy]; rfl)
  rw [← e]; exact Nat.and_le_right
theorem Sub.rf (y : Nat) : Sub y y := fun _ h => h
theorem Sub.tr {a b c : Nat} (h : Sub a b) (g : Sub b c) : Sub a c := fun q x => g q (h q x)
theorem sub_dif {y s : Nat} (hy : y < 4096) : dif y s = 0 ↔ Sub y s := by
  rw [zero_t]
  constructor
  · intro h q hq
    have := h q
    rw [dif_t hy, hq] at this
    simpa using this
  · intro h q
    rw [dif_t hy]
    cases hq : y.testBit q
    · rfl
    · rw [h q hq]; rfl
theorem dif_sub {x : Nat} (y : Nat) (hx : x < 4096) : Sub (dif x y) x := fun q h => by
  rw [dif_t hx, Bool.and_eq_true] at h; exact h.1
def pc (x : Nat) : Nat := pcF 32 x
theorem pc_le (x : Nat) : pc x ≤ 32 := pcF_le 32 x
theorem pc_mono {x y : Nat} (hy : y < 4096) (h : Sub x y) : pc x ≤ pc y := by
  have hx : x < 4096 := Nat.lt_of_le_of_lt h.le hy
  unfold pc
  rw [pc_ct hx, pc_ct hy]
  exact ct_mono 12 (fun b _ hb => h b hb)
theorem pc_0 : pc 0 = 0 := pcF_0 32
theorem RG_sub {on : Nat → Nat → Bool} {n x y : Nat} (h : Sub y x) (g : RG on n x = true) : RG on n y = true := RG_iff.mpr (fun p q hp hq h1 h2 hne => RG_iff.mp g p q hp hq (h p h1) (h q h2) hne)
def Opt (on : Nat → Nat → Bool) (n s b : Nat) : Prop := Sub b s ∧ RG on n b = true ∧ ∀ y, Sub y s → RG on n y = true → pc y < pc b ∨ (pc y = pc b ∧ b ≤ y)
theorem Opt.uq {on : Nat → Nat → Bool} {n s a b : Nat} (h : Opt on n s a) (g : Opt on n s b) : a = b := by
  have h1 := h.2.2 b g.1 g.2.1
  have h2 := g.2.2 a h.1 h.2.1
  omega
section
variable {n : Nat} {X : Nat → PV} {sl : Int32} {on : Nat → Nat → Bool}
theorem bo_8 {v : Mem} {s : Nat} (hs : s < 2 ^ n) (hs2 : s < 4096) (hT : RT v n on) : ∀ m j i b, i + j = s + 1 → j < m → b < i → Sub b s → RG on n b = true → (∀ y, y < i → Sub y s → RG on n y = true → pc y < pc b ∨ (pc y = pc b ∧ b ≤ y)) → ∃ b', F_X7_bestOf_8 m v (nI s) (nI b) (nI i) = some (nI b', v) ∧ Opt on n s b' := by
  intro m
  induction m with
  | zero => intro j i b _ h; exact absurd h (by omega)
  | succ m ih =>
    intro j i b h1 hj hbi hb hr hy
    unfold F_X7_bestOf_8
    cases j with
    | zero =>
      rw [if_pos (nI_lt (by omega) (by omega))]
      exact ⟨b, rfl, hb, hr, fun y h2 h3 => hy y (by have := h2.le; omega) h2 h3⟩
    | succ j =>
      have hi : i < 4096 := by omega
      unfold F_X7_bestOf_34 F_X7_bestOf_35 F_X7_bestOf_57 F_X7_bestOf_58
      rw [if_neg (nI_nlt (by omega) (by omega)), dif_I, gd_nI _ hi (by omega), nI_clamp (show i < 2 ^ 31 by omega), hT i (by omega), nI_1]
      have skip : ¬ (Sub i s ∧ RG on n i = true) → ∃ b', F_X7_bestOf_8 m v (nI s) (nI b) (nI (i + 1)) = some (nI b', v) ∧ Opt on n s b' := fun hno =>
        ih j (i + 1) b (by omega) (by omega) (by omega) hb hr (fun y h2 h3 h4 => by
          by_cases e : y = i
          · rw [e] at h3 h4; exact absurd ⟨h3, h4⟩ hno
          · exact hy y (by omega) h3 h4)
      have hz : nI (dif i s) = 0 ↔ Sub i s := by rw [nI0 (Nat.lt_of_le_of_lt (dif_le i s) hi), sub_dif hi]
      by_cases hsub : Sub i s
      · rw [if_pos (hz.mpr hsub)]
        cases hri : RG on n i
        · rw [if_pos (show bi false = 0 from rfl)]
          exact skip (fun z => by rw [hri] at z; exact absurd z.2 (by decide))
        · rw [if_neg (show ¬ bi true = 0 by decide), ite10, ones_M v (show i < 2 ^ 31 by omega), bdI_s, ones_M v (show b < 2 ^ 31 by omega), bdI_s]
          have p1 := pc_le i
          have p2 := pc_le b
          by_cases hc : pc i ≤ pc b
          · rw [if_pos (show nI (pcF 32 i) ≤ nI (pcF 32 b) from nI_le hc (by show pc b < 2 ^ 31; omega))]
            exact ih j (i + 1) b (by omega) (by omega) (by omega) hb hr (fun y h2 h3 h4 => by
              by_cases e : y = i
              · rw [e]; omega
              · exact hy y (by omega) h3 h4)
          · rw [if_neg (show ¬ nI (pcF 32 i) ≤ nI (pcF 32 b) from nI_ge (show pc b < pc i by omega) (by show pc i < 2 ^ 31; omega))]
            exact ih j (i + 1) i (by omega) (by omega) (by omega) hsub hri (fun y h2 h3 h4 => by
              by_cases e : y = i
              · rw [e]; omega
              · have := hy y (by omega) h3 h4; omega)
      · rw [if_neg (fun z => hsub (hz.mp z)), ite00]
        exact skip (fun z => hsub z.1)
theorem bestOf_M {v : Mem} {s : Nat} (hX : MX v n X sl) (hs : s < 2 ^ n) (hs2 : s < 4096) : ∃ b v', F_X7_bestOf v (nI s) = some (nI b, v') ∧ Opt (onW X sl) n s b ∧ W456 v v' := by
  obtain ⟨v1, e1, w1, -, -, r1⟩ := findRings_M hX
  obtain ⟨b, e2, o⟩ := bo_8 hs hs2 r1 fu s 1 0 (by omega) (by unfold fu; omega) (by omega) (fun q h => by rw [Nat.zero_testBit] at h; exact absurd h (by decide)) RG_0 (fun y hy _ _ => by
    have e : y = 0 := by omega
    rw [e]; omega)
  refine ⟨b, v1, ?_, o, w1⟩
  unfold F_X7_bestOf
  rw [e1, bdV_s]
  exact e2
/-! the class's search -/
def SP (on : Nat → Nat → Bool) (n ch op B B2 : Nat) : Prop := (∀ t, Sub t op → RG on n (ch ||| t) = true → pc (ch ||| t) ≤ pc B2) ∧ (B2 = B ∨ (pc B < pc B2 ∧ ∃ t, Sub t op ∧ RG on n (ch ||| t) = true ∧ B2 = ch ||| t ∧ ∀ t', Sub t' op → RG on n (ch ||| t') = true → pc (ch ||| t') = pc B2 → B2 ≤ ch ||| t'))
def W7 (u u2 : Mem) : Prop := u2.2 = u.2 ∧ (∀ c, c ≠ 7 → u2.1 c = u.1 c)
theorem W7.tr {u u2 u3 : Mem} (h : W7 u u2) (g : W7 u2 u3) : W7 u u3 := ⟨g.1.trans h.1, fun c a => (g.2 c a).trans (h.2 c a)⟩
theorem LM.fr {u u2 : Mem} {f g : Nat → Nat → Bool} (h : LM u f g) (e8 : u2.1 8 = u.1 8) (e9 : u2.1 9 = u.1 9) : LM u2 f g := fun p hp => ⟨(h p hp).1.congr (by rw [e8]) (fun _ _ => rfl), (h p hp).2.congr (by rw [e9]) (fun _ _ => rfl)⟩
theorem lt_of_bits {x L : Nat} (h : ∀ q, x.testBit q = true → q < L) : x < 2 ^ L := Nat.lt_pow_two_of_testBit x (fun q hq => by
  cases e : x.testBit q
  · rfl
  · exact absurd (h q e) (by omega))
theorem sk_L (hsym : ∀ p q, p ≠ q → on p q = on q p) {f : Nat → Nat → Bool} : ∀ (L fuel c op B : Nat) (u : Mem), L ≤ 12 → L < fuel → op < 2 ^ L → 2 ^ L * c < 4096 → (∀ q, op.testBit q = true → q < n) → RG on n (2 ^ L * c) = true → (∀ q r, op.testBit q = true → (2 ^ L * c).testBit r = true → r < n → on q r = true) → B < 4096 → u.1 7 8 = nI B → LM u f (EF n on) → ∃ u' B', F_X2_seekLargest fuel u (nI (2 ^ L * c)) (nI op) (nI L - 1) = some u' ∧ W7 u u' ∧ B' < 4096 ∧ u'.1 7 8 = nI B' ∧ SP on n (2 ^ L * c) op B B' := by
  intro L
  induction L with
  | zero =>
    intro fuel c op B u _ hf hop hc hopn hr hoc hB hu hL
    obtain ⟨fuel, rfl⟩ : ∃ k, fuel = k + 1 := ⟨fuel - 1, by omega⟩
    have e0 : op = 0 := by omega
    subst e0
    unfold F_X2_seekLargest F_X2_seekLargest_27
    rw [show nI (2 ^ 0 * c) ||| nI 0 = nI (2 ^ 0 * c) from Int32.or_zero, bj_C u hc, bdI_s, hu, bj_C u hB, bdI_s]
    have p1 := pc_le (2 ^ 0 * c)
    have p2 := pc_le B
    have sub0 : ∀ t, Sub t 0 → t = 0 := fun t ht => by have := ht.le; omega
    by_cases h : pc B < pc (2 ^ 0 * c)
    · rw [if_pos (show nI (pcF 32 B) < nI (pcF 32 (2 ^ 0 * c)) from nI_lt h (by show pc _ < _; omega)), if_pos (show nI 0 - 1 < (0 : Int32) by decide)]
      refine ⟨_, 2 ^ 0 * c, rfl, ⟨rfl, fun c h => funext fun j => sI_i h⟩, hc, sI_eq, fun t ht _ => ?_, Or.inr ⟨h, 0, Sub.rf 0, by rw [Nat.or_zero]; exact hr, by rw [Nat.or_zero], fun t ht _ _ => by rw [sub0 t ht, Nat.or_zero]; exact Nat.le_refl _⟩⟩
      rw [sub0 t ht, Nat.or_zero]; exact Nat.le_refl _
    · rw [if_neg (show ¬ nI (pcF 32 B) < nI (pcF 32 (2 ^ 0 * c)) from nI_nlt (show pc (2 ^ 0 * c) ≤ pc B by omega) (by show pc _ < _; omega))]
      exact ⟨u, B, rfl, ⟨rfl, fun _ _ => rfl⟩, hB, hu, fun t ht _ => by rw [sub0 t ht, Nat.or_zero]; omega, Or.inl rfl⟩
  | succ p ih =>
    intro fuel c op B u hL12 hf hop hc hopn hr hoc hB hu hL
    obtain ⟨fuel, rfl⟩ : ∃ k, fuel = k + 1 := ⟨fuel - 1, by omega⟩
    have hp : p < 12 := by omega
    have hop2 : op < 4096 := Nat.lt_of_lt_of_le hop (p2_le (p := p + 1) (by omega))
    have hco : 2 ^ (p + 1) * c ||| op < 4096 := or_lt12 hc hop2
    have hpw : 2 ^ (p + 1) = 2 * 2 ^ p := by rw [Nat.pow_succ, Nat.mul_comm]
    have ech : 2 ^ p * (2 * c) = 2 ^ (p + 1) * c := by rw [hpw, ← Nat.mul_assoc, Nat.mul_comm (2 ^ p) 2]
    have hbit : 2 ^ (p + 1) * c ||| 2 ^ p = 2 ^ p * (2 * c + 1) := by
      rw [← Nat.two_pow_add_eq_or_of_lt (show 2 ^ p < 2 ^ (p + 1) by have := Nat.two_pow_pos p; omega), Nat.mul_add, ech, Nat.mul_one]
    unfold F_X2_seekLargest F_X2_seekLargest_74
    rw [nx_or, bj_C u hco, bdI_s, hu, bj_C u hB, bdI_s]
    have p1 := pc_le (2 ^ (p + 1) * c ||| op)
    have p2 := pc_le B
    by_cases h : pc B < pc (2 ^ (p + 1) * c ||| op)
    · rw [if_pos (show nI (pcF 32 B) < nI (pcF 32 (2 ^ (p + 1) * c ||| op)) from nI_lt h (by show pc _ < _; omega)), show nI (p + 1) - 1 = nI p from nI_pred p, if_neg (nI_pos (by omega)), if_pos (show nI p < (12 : Int32) from nI_lt (b := 12) hp (by omega)), wo_C hp, bdI_s]
      have ho1 : dif op (2 ^ p) < 2 ^ p := lt_of_bits (fun q hq => by
        rw [dif_t hop2, Bool.and_eq_true, Nat.testBit_two_pow] at hq
        have h1 : q < p + 1 := by
          by_cases z : q < p + 1
          · exact z
          · rw [tb_out hop (by omega)] at hq; exact absurd hq.1 (by decide)
        have h2 : ¬ p = q := fun z => by rw [decide_eq_true z] at hq; exact absurd hq.2 (by decide)
        omega)
      have sd := dif_sub (2 ^ p) hop2
      obtain ⟨u1, B1, e1, w1, hB1, hu1, sp1⟩ := ih fuel (2 * c) (dif op (2 ^ p)) B u (by omega) (by omega) ho1 (by rw [ech]; exact hc) (fun q hq => hopn q (sd q hq)) (by rw [ech]; exact hr) (fun q r hq => by rw [ech]; exact hoc q r (sd q hq)) hB hu hL
      rw [ech] at e1 sp1
      rw [e1, bdV_s, isIn_C hop2 hp, bdI_s]
      cases hb : op.testBit p
      · rw [if_pos (show bi false = 0 from rfl)]
        have hs1 : ∀ t, Sub t op → Sub t (dif op (2 ^ p)) := fun t ht q hq => by
          rw [dif_t hop2, ht q hq, Nat.testBit_two_pow, decide_eq_false]
          · rfl
          · intro z; rw [← z] at hq; rw [ht p hq] at hb; exact absurd hb (by decide)
        refine ⟨u1, B1, rfl, w1, hB1, hu1, fun t ht hrt => sp1.1 t (hs1 t ht) hrt, ?_⟩
        rcases sp1.2 with z | ⟨z1, t, z2, z3, z4, z5⟩
        · exact Or.inl z
        · exact Or.inr ⟨z1, t, z2.tr sd, z3, z4, fun t' ht' => z5 t' (hs1 t' ht')⟩
      · rw [if_neg (show ¬ bi true = 0 by decide), gd_nI _ hp (by omega), cl_nI hp, w1.2 9 (by decide)]
        obtain ⟨x, hx, ex, hxt⟩ := (hL p hp).2
        rw [ex, bit_I p (by omega), nx_or, nx_and, hbit]
        have hpn := hopn p hb
        have hop3 : op &&& x < 2 ^ p := lt_of_bits (fun q hq => by
          rw [Nat.testBit_and, Bool.and_eq_true] at hq
          have h1 : q < p + 1 := by
            by_cases z : q < p + 1
            · exact z
            · rw [tb_out hop (by omega)] at hq; exact absurd hq.1 (by decide)
          have h2 : q ≠ p := fun z => by
            rw [z, hxt p hp] at hq
            unfold EF at hq
            rw [decide_eq_false (fun y => y.1 rfl), Bool.false_and] at hq
            exact absurd hq.2 (by decide)
          omega)
        have bx : ∀ q, (op &&& x).testBit q = true → op.testBit q = true ∧ q ≠ p ∧ q < n ∧ on p q = true := fun q hq => by
          have hlt : q < 12 := by
            by_cases z : q < 12
            · exact z
            · rw [tb_out (k := 12) (Nat.lt_of_le_of_lt Nat.and_le_left hop2) (by omega)] at hq; exact absurd hq (by decide)
          rw [Nat.testBit_and, Bool.and_eq_true, hxt q hlt] at hq
          have h3 := hq.2
          unfold EF at h3
          rw [Bool.and_eq_true, decide_eq_true_eq] at h3
          exact ⟨hq.1, fun z => h3.1.1 z.symm, h3.1.2.2, h3.2⟩
        have hch2 : 2 ^ p * (2 * c + 1) < 4096 := by rw [← hbit]; exact or_lt12 hc (p2_lt hp)
        have bch : ∀ r, (2 ^ p * (2 * c + 1)).testBit r = ((2 ^ (p + 1) * c).testBit r || decide (p = r)) := fun r => by rw [← hbit, Nat.testBit_or, Nat.testBit_two_pow]
        have hr2 : RG on n (2 ^ p * (2 * c + 1)) = true := RG_iff.mpr (fun a b ha hb2 h1 h2 hne => by
          rw [bch, Bool.or_eq_true, decide_eq_true_eq] at h1 h2
          rcases h1 with h1 | h1
          · rcases h2 with h2 | h2
            · exact RG_iff.mp hr a b ha hb2 h1 h2 hne
            · subst h2; rw [hsym a p hne]; exact hoc p a hb h1 ha
          · subst h1
            rcases h2 with h2 | h2
            · exact hoc p b hb h2 hb2
            · exact absurd h2 hne)
        obtain ⟨u2, B2, e2, w2, hB2, hu2, sp2⟩ := ih fuel (2 * c + 1) (op &&& x) B1 u1 (by omega) (by omega) hop3 hch2 (fun q hq => (bx q hq).2.2.1) hr2 (fun q r hq h1 hrn => by
          have z := bx q hq
          rw [bch, Bool.or_eq_true, decide_eq_true_eq] at h1
          rcases h1 with h1 | h1
          · exact hoc q r z.1 h1 hrn
          · subst h1; rw [hsym q p z.2.1]; exact z.2.2.2) hB1 hu1 (hL.fr (w1.2 8 (by decide)) (w1.2 9 (by decide)))
        rw [e2, bdV_s]
        have cases_t : ∀ t, Sub t op → RG on n (2 ^ (p + 1) * c ||| t) = true → Sub t (dif op (2 ^ p)) ∨ ∃ t2, Sub t2 (op &&& x) ∧ 2 ^ (p + 1) * c ||| t = 2 ^ p * (2 * c + 1) ||| t2 := fun t ht hrt => by
          have ht2 : t < 4096 := Nat.lt_of_le_of_lt ht.le hop2
          cases hbt : t.testBit p
          · refine Or.inl (fun q hq => ?_)
            rw [dif_t hop2, ht q hq, Nat.testBit_two_pow, decide_eq_false]
            · rfl
            · intro z; rw [← z] at hq; rw [hq] at hbt; exact absurd hbt (by decide)
          · refine Or.inr ⟨dif t (2 ^ p), fun q hq => ?_, Nat.eq_of_testBit_eq (fun q => ?_)⟩
            · rw [dif_t ht2, Bool.and_eq_true, Nat.testBit_two_pow] at hq
              have h2 : ¬ p = q := fun z => by rw [decide_eq_true z] at hq; exact absurd hq.2 (by decide)
              have hqo := ht q hq.1
              have hqn := hopn q hqo
              have h12 : q < 12 := by
                by_cases z : q < 12
                · exact z
                · rw [tb_out (k := 12) hop2 (by omega)] at hqo; exact absurd hqo (by decide)
              rw [Nat.testBit_and, hqo, hxt q h12]
              unfold EF
              rw [decide_eq_true ⟨h2, hpn, hqn⟩, RG_iff.mp hrt p q hpn hqn (by rw [Nat.testBit_or, hbt, Bool.or_true]) (by rw [Nat.testBit_or, hq.1, Bool.or_true]) h2]; rfl
            · rw [Nat.testBit_or, Nat.testBit_or, bch, dif_t ht2, Nat.testBit_two_pow]
              by_cases z : p = q
              · rw [← z, hbt, decide_eq_true rfl]; simp
              · rw [decide_eq_false z]; simp
        have hlow : ∀ t, Sub t (dif op (2 ^ p)) → 2 ^ (p + 1) * c ||| t < 2 ^ p * (2 * c + 1) := fun t ht => by
          have h1 : t < 2 ^ p := Nat.lt_of_le_of_lt ht.le ho1
          rw [← Nat.two_pow_add_eq_or_of_lt (show t < 2 ^ (p + 1) by omega), Nat.mul_add, ech, Nat.mul_one]
          omega
        refine ⟨u2, B2, rfl, w1.tr w2, hB2, hu2, fun t ht hrt => ?_, ?_⟩
        · have m12 : pc B1 ≤ pc B2 := by
            rcases sp2.2 with z | z
            · rw [z]; exact Nat.le_refl _
            · omega
          rcases cases_t t ht hrt with z | ⟨t2, z1, z2⟩
          · exact Nat.le_trans (sp1.1 t z hrt) m12
          · rw [z2] at hrt ⊢; exact sp2.1 t2 z1 hrt
        · rcases sp2.2 with z | ⟨z1, t, z2, z3, z4, z5⟩
          · rcases sp1.2 with y | ⟨y1, t, y2, y3, y4, y5⟩
            · exact Or.inl (z.trans y)
            · refine Or.inr ⟨by rw [z]; exact y1, t, y2.tr sd, y3, by rw [z]; exact y4, fun t' ht' hrt' hpc => ?_⟩
              rcases cases_t t' ht' hrt' with q | ⟨t2, q1, q2⟩
              · rw [z] at hpc ⊢; exact y5 t' q hrt' hpc
              · rw [q2, z, y4]
                exact Nat.le_trans (Nat.le_of_lt (hlow t y2)) Nat.left_le_or
          · have m01 : pc B ≤ pc B1 := by
              rcases sp1.2 with y | y
              · rw [y]; exact Nat.le_refl _
              · omega
            refine Or.inr ⟨by omega, 2 ^ p ||| t, fun q hq => ?_, ?_, ?_, fun t' ht' hrt' hpc => ?_⟩
            · rw [Nat.testBit_or, Bool.or_eq_true, Nat.testBit_two_pow, decide_eq_true_eq] at hq
              rcases hq with hq | hq
              · rw [← hq]; exact hb
              · exact (bx q (z2 q hq)).1
            · rw [← Nat.or_assoc, hbit]; exact z3
            · rw [← Nat.or_assoc, hbit]; exact z4
            · rcases cases_t t' ht' hrt' with q | ⟨t2, q1, q2⟩
              · have := sp1.1 t' q hrt'
                omega
              · rw [q2] at hrt' hpc ⊢
                exact z5 t2 q1 hrt' hpc
    · rw [if_neg (show ¬ nI (pcF 32 B) < nI (pcF 32 (2 ^ (p + 1) * c ||| op)) from nI_nlt (show pc (2 ^ (p + 1) * c ||| op) ≤ pc B by omega) (by show pc _ < _; omega))]
      refine ⟨u, B, rfl, ⟨rfl, fun _ _ => rfl⟩, hB, hu, fun t ht _ => ?_, Or.inl rfl⟩
      have := pc_mono hco (x := 2 ^ (p + 1) * c ||| t) (fun q hq => by
        rw [Nat.testBit_or, Bool.or_eq_true] at hq ⊢
        exact hq.imp id (ht q))
      omega
theorem largest_C {u : Mem} {s : Nat} {f : Nat → Nat → Bool} (hsym : ∀ p q, p ≠ q → on p q = on q p) (hs : s < 2 ^ n) (hs2 : s < 4096) (hL : LM u f (EF n on)) : ∃ b u', F_X2_largestRing u (nI s) = some (nI b, u') ∧ b < 4096 ∧ Opt on n s b ∧ W7 u u' := by
  obtain ⟨u1, B, e1, w1, hB, hu1, sp⟩ := sk_L hsym (f := f) (on := on) (n := n) 12 20 0 s 0 (sI u 7 8 0) (by omega) (by omega) hs2 (by omega) (fun q hq => by
    by_cases z : q < n
    · exact z
    · rw [tb_out hs (by omega)] at hq; exact absurd hq (by decide)) (by rw [Nat.mul_zero]; exact RG_0) (fun q r _ h => by rw [Nat.mul_zero, Nat.zero_testBit] at h; exact absurd h (by decide)) (by omega) sI_eq (hL.fr (funext fun j => sI_i (by decide)) (funext fun j => sI_i (by decide)))
  rw [Nat.mul_zero] at e1 sp
  refine ⟨B, u1, ?_, hB, ?_, ⟨w1.1, fun c hc => (w1.2 c hc).trans (funext fun j => sI_i hc)⟩⟩
  · unfold F_X2_largestRing
    rw [show F_X2_seekLargest 20 (sI u 7 8 0) 0 (nI s) 11 = some u1 from e1, bdV_s, hu1]
  · unfold SP at sp
    simp only [Nat.zero_or] at sp
    rcases sp.2 with z | ⟨z1, t, z2, z3, z4, z5⟩
    · rw [z] at sp ⊢
      refine ⟨fun q h => by rw [Nat.zero_testBit] at h; exact absurd h (by decide), RG_0, fun y h1 h2 => ?_⟩
      have := sp.1 y h1 h2
      rw [pc_0] at this ⊢
      omega
    · subst z4
      refine ⟨z2, z3, fun y h1 h2 => ?_⟩
      have := sp.1 y h1 h2
      by_cases e : pc y = pc B
      · exact Or.inr ⟨e, z5 y h1 h2 e⟩
      · omega
end
theorem W7.ok {u u2 : Mem} (h : W7 u u2) : okC u u2 := fun i a _ _ => ⟨h.2 i (by omega), by rw [h.1]⟩
theorem ST16 : ST_16 Rel := by
  intro u v x1 hR
  obtain ⟨n, hA⟩ := hR.1
  obtain ⟨hX, hY⟩ := hA.X
  rcases set_cases hX.2.1 hY.2.1 hX.1 x1 with ⟨c, m⟩ | ⟨s, hs, hs2, rfl, c, m⟩
  · exact ⟨-1000000001, tC u 0, tM v 0, by unfold F_X6_best; rw [c]; rfl, by unfold F_X7_best F_X7_best_22; rw [m]; rfl, hR.fd 0 (by omega)⟩
  obtain ⟨u1, e1, w1, l1⟩ := weigh_C hX
  obtain ⟨b, u2, e2, -, o2, w2⟩ := largest_C (fun p q h => onW_sym h) hs hs2 l1
  obtain ⟨b', v1, f1, o1, w3⟩ := bestOf_M hY hs hs2
  have e := o1.uq o2
  subst e
  refine ⟨nI b', u2, v1, ?_, ?_, hR.frame (w1.ok.tr w2.ok) w3.ok⟩
  · unfold F_X6_best
    rw [c, bdI_s, ite10, e1, bdV_s, e2, bdI_s]
  · unfold F_X7_best F_X7_best_22
    rw [m, bdI_s, ite10, f1, bdI_s]
theorem ST15 : ST_15 Rel := by
  intro u v x1 hR
  obtain ⟨n, hA⟩ := hR.1
  obtain ⟨hX, hY⟩ := hA.X
  rcases set_cases hX.2.1 hY.2.1 hX.1 x1 with ⟨c, m⟩ | ⟨s, hs, hs2, rfl, c, m⟩
  · exact ⟨-1000000001, tC u 0, tM v 0, by unfold F_X6_most; rw [c]; rfl, by unfold F_X7_most F_X7_most_25; rw [m]; rfl, hR.fd 0 (by omega)⟩
  obtain ⟨u1, e1, w1, l1⟩ := weigh_C hX
  obtain ⟨b, u2, e2, hb, o2, w2⟩ := largest_C (fun p q h => onW_sym h) hs hs2 l1
  obtain ⟨b', v1, f1, o1, w3⟩ := bestOf_M hY hs hs2
  have e := o1.uq o2
  subst e
  refine ⟨nI (pcF 32 b'), u2, v1, ?_, ?_, hR.frame (w1.ok.tr w2.ok) w3.ok⟩
  · unfold F_X6_most
    rw [c, bdI_s, ite10, e1, bdV_s, e2, bdI_s, bj_C u2 hb, bdI_s]
  · unfold F_X7_most F_X7_most_25
    rw [m, bdI_s, ite10, f1, bdI_s, ones_M v1 (by omega), bdI_s]
