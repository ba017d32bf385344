/-! PURE: the first order -/
theorem fq_min {f : Nat → Bool} : ∀ k i j, fq f k i = some j → ∀ a, i ≤ a → a < j → f a = false := by
  intro k
  induction k with
  | zero => intro i j h; cases h
  | succ k ih =>
    intro i j h a h1 h2
    rw [fq_s] at h
    cases e : f i
    · rw [e, if_neg (show ¬ false = true by decide)] at h
      by_cases z : a = i
      · rw [z]; exact e
      · exact ih (i + 1) j h a (by omega) h2
    · rw [e, if_pos rfl] at h
      cases h; omega
theorem fq_of {f : Nat → Bool} : ∀ k i j, i ≤ j → j < i + k → f j = true → (∀ a, i ≤ a → a < j → f a = false) → fq f k i = some j := by
  intro k
  induction k with
  | zero => intro i j h1 h2; omega
  | succ k ih =>
    intro i j h1 h2 h3 h4
    rw [fq_s]
    by_cases e : i = j
    · subst e; rw [h3, if_pos rfl]
    · rw [h4 i (by omega) (by omega), if_neg (show ¬ false = true by decide)]
      exact ih (i + 1) j (by omega) (by omega) h3 (fun a a1 a2 => h4 a (by omega) a2)
section
variable {n s : Nat} {cn f : Nat → Nat → Bool}
theorem fl_2 {u : Mem} {mf : Nat → Nat} {L : Nat} (hG : GM u cn n s mf) (hn : n ≤ 12) (h8 : Cs s n ≤ 8) (hL : L < 2 ^ Cs s n) : ∀ m k i, i + k = Cs s n → k < m → F_X2_firstLeader_2 m u (nI L) (nI i) = some (op1 (fq (fun k => L.testBit k && LD cn n (mf k) (eS n s (dif L (2 ^ k)))) k i), u) := by
  have hp8 : 2 ^ Cs s n ≤ 2 ^ 8 := Nat.pow_le_pow_right (by decide) h8
  have h256 : (2 : Nat) ^ 8 = 256 := rfl
  intro m
  induction m with
  | zero => intro k i _ h; exact absurd h (by omega)
  | succ m ih =>
    intro k i h1 hk
    unfold F_X2_firstLeader_2 F_X2_firstLeader_33
    rw [hG.1]
    cases k with
    | zero => rw [if_pos (nI_le (by omega) (by omega))]; rfl
    | succ k =>
      have hdl := dif_le L (2 ^ i)
      rw [if_neg (nI_ge (by omega) (by omega)), isIn_C (show L < 4096 by omega) (by omega), bdI_s, wo_C (show i < 12 by omega), bdI_s, lead_C hG hn h8 (show i < Cs s n by omega) (show dif L (2 ^ i) < 2 ^ Cs s n by omega), bdI_s, nI_1, ih k (i + 1) (by omega) (by omega), fq_s]
      cases hb : L.testBit i
      · rw [if_pos (show bi false = 0 from rfl), Bool.false_and, if_neg (show ¬ false = true by decide)]
      · rw [if_neg (show ¬ bi true = 0 by decide), Bool.true_and]
        cases hl : LD cn n (mf i) (eS n s (dif L (2 ^ i)))
        · rw [if_pos (show bi false = 0 from rfl), if_neg (show ¬ false = true by decide)]
        · rw [if_neg (show ¬ bi true = 0 by decide), if_pos rfl]; rfl
theorem fq_mf {L p : Nat} {mf : Nat → Nat} (hn : n ≤ 12) (hL : L < 4096) (hM : MF n s mf) (h : fq (fun p => (eS n s L).testBit p && LD cn n p (dif (eS n s L) (2 ^ p))) n 0 = some p) : fq (fun k => L.testBit k && LD cn n (mf k) (eS n s (dif L (2 ^ k)))) (Cs s n) 0 = some (Cs s p) ∧ p < n ∧ s.testBit p = true ∧ (eS n s L).testBit p = true := by
  obtain ⟨-, h2, h3⟩ := fq_lt n 0 p h
  have h4 := fq_min n 0 p h
  have h3 : ((eS n s L).testBit p && LD cn n p (dif (eS n s L) (2 ^ p))) = true := h3
  have hp : p < n := by omega
  have hb : (eS n s L).testBit p = true := by rw [Bool.and_eq_true] at h3; exact h3.1
  have hs := eS_sub p hb
  have key : ∀ k, k < Cs s n → (L.testBit k && LD cn n (mf k) (eS n s (dif L (2 ^ k)))) = ((eS n s L).testBit (mf k) && LD cn n (mf k) (dif (eS n s L) (2 ^ mf k))) := fun k hk => by rw [eS_at hM hk, eS_dif hn hL hM hk]
  have hc := Cs_lt hs hp
  refine ⟨fq_of (Cs s n) 0 (Cs s p) (by omega) (by omega) ?_ (fun a _ ha => ?_), hp, hs, hb⟩
  · show (L.testBit (Cs s p) && LD cn n (mf (Cs s p)) (eS n s (dif L (2 ^ Cs s p)))) = true
    rw [key _ hc, hM p hp hs]; exact h3
  · show (L.testBit a && LD cn n (mf a) (eS n s (dif L (2 ^ a)))) = false
    rw [key _ (by omega)]
    obtain ⟨m1, m2, m3⟩ := hM.at (show a < Cs s n by omega)
    exact h4 (mf a) (by omega) (by
      by_cases z : mf a < p
      · exact z
      · have := Cs_mono (s := s) (a := p) (mf a) (by omega); omega)
theorem lead_ex {t : Nat} (ht : t < 4096) (h0 : t ≠ 0) (hpos : 0 < OC cn n t) : ∃ p, fq (fun p => t.testBit p && LD cn n p (dif t (2 ^ p))) n 0 = some p := by
  rw [OC_s ht h0] at hpos
  obtain ⟨p, hp, hg⟩ := (su_pos n).mp hpos
  obtain ⟨g1, g2, -⟩ := OG_pos hg
  obtain ⟨q, hq, hmin⟩ := pk_least (fun q => q < n ∧ (t.testBit q && LD cn n q (dif t (2 ^ q))) = true) ⟨p, hp, by rw [g1, g2]; rfl⟩
  refine ⟨q, fq_of n 0 q (by omega) (by omega) hq.2 (fun a _ ha => ?_)⟩
  show (t.testBit a && LD cn n a (dif t (2 ^ a))) = false
  cases e : (t.testBit a && LD cn n a (dif t (2 ^ a)))
  · rfl
  · exact absurd ⟨by omega, e⟩ (hmin a ha)
end
section
variable {n s : Nat} {X : Nat → PV} {sl : Int32} {f : Nat → Nat → Bool}
theorem it_87 {v : Mem} {t p : Nat} {x2 x5 : Int32} (hX : MX v n X sl) (hC : CAN v n X sl) (hT : TO v (cnW X sl) n s (s + 1)) (ht : Sub t s) (hs2 : s < 4096) (h8 : pc t ≤ 8) (hpos : 0 < OC (cnW X sl) n t) (k78 : Mem → Int32 → Int32 → Int32 → Int32 → Option (Int32 × Mem)) : ∀ m k i, i + k = n → k < m → fq (fun p => t.testBit p && LD (cnW X sl) n p (dif t (2 ^ p))) k i = some p → F_X7_ith_87 k78 m v x2 (nI t) (nI i) x5 = k78 v x2 (nI (dif t (2 ^ p))) (nI p) (x5 + 1) := by
  have htl := ht.le
  have ht4 : t < 4096 := by omega
  intro m
  induction m with
  | zero => intro k i _ h; exact absurd h (by omega)
  | succ m ih =>
    intro k i h1 hk hq
    have hn := hX.1
    cases k with
    | zero => cases hq
    | succ k =>
      have hdl := dif_le t (2 ^ i)
      unfold F_X7_ith_87 F_X7_ith_129
      rw [fq_s] at hq
      rw [has_M ht4 (by omega), bdI_s, bit_I i (by omega), dif_I, ahead_M hX hC (show i < n by omega) (show dif t (2 ^ i) < 4096 by omega), bdI_s, gd_nI _ (show dif t (2 ^ i) < 4096 by omega) (by omega), nI_clamp (show dif t (2 ^ i) < 2 ^ 31 by omega), hT _ (by omega) ((dif_sub _ ht4).tr ht), nI_1]
      cases hb : t.testBit i
      · rw [hb, Bool.false_and, if_neg (show ¬ false = true by decide)] at hq
        rw [if_pos (show bi false = 0 from rfl)]
        exact ih k (i + 1) (by omega) (by omega) hq
      · rw [hb, Bool.true_and] at hq
        rw [if_neg (show ¬ bi true = 0 by decide)]
        cases hl : LD (cnW X sl) n i (dif t (2 ^ i))
        · rw [hl, if_neg (show ¬ false = true by decide)] at hq
          rw [if_pos (show bi false = 0 from rfl)]
          exact ih k (i + 1) (by omega) (by omega) hq
        · rw [hl, if_pos rfl] at hq
          have hip : p = i := (Option.some.inj hq).symm
          rw [hip]
          have h2 := pc_dif ht4 hb
          have h3 := OC_lt (cn := cnW X sl) hn (show dif t (2 ^ i) < 4096 by omega) (by omega)
          have h4 := OC_mono (t + 1) t (by omega) ht4 hpos (dif t (2 ^ i)) (dif_sub _ ht4)
          rw [if_neg (show ¬ bi true = 0 by decide), if_neg (nI_ne0 h4 h3)]
theorem ith_L {u v : Mem} {mf : Nat → Nat} {i : Nat} (hG : GM u (cnW X sl) n s mf) (hX : MX v n X sl) (hC : CAN v n X sl) (hT : TO v (cnW X sl) n s (s + 1)) (hs2 : s < 4096) (h8 : Cs s n ≤ 8) (hi : i < Cs s n) : ∀ (m k st L : Nat) (ld p : Int32), st + k = i + 1 → k < m → (k = 0 → ∃ k0, k0 < Cs s n ∧ ld = nI k0 ∧ p = nI (mf k0)) → L < 2 ^ Cs s n → 0 < OC (cnW X sl) n (eS n s L) → pc (eS n s L) + st = Cs s n → ∃ q, q < n ∧ F_X2_inFirstOrder_39 m u (nI i) (nI L) ld (nI st) = some (nI q, u) ∧ F_X7_ith_78 m v (nI i) (nI (eS n s L)) p (nI st) = some (nI q, v) := by
  have hn := hX.1
  have hp8 : 2 ^ Cs s n ≤ 2 ^ 8 := Nat.pow_le_pow_right (by decide) h8
  have h256 : (2 : Nat) ^ 8 = 256 := rfl
  intro m
  induction m with
  | zero => intro k st L ld p _ h; exact absurd h (by omega)
  | succ m ih =>
    intro k st L ld p h1 hk h0 hL hpos hpc
    unfold F_X2_inFirstOrder_39 F_X7_ith_78
    cases k with
    | zero =>
      obtain ⟨k0, a1, a2, a3⟩ := h0 rfl
      obtain ⟨m1, m2, m3⟩ := hG.2.2.1.at a1
      rw [if_pos (nI_lt (by omega) (by omega)), if_pos (nI_lt (by omega) (by omega)), a2, a3, gd_nI _ (show k0 < 8 by omega) (by omega), cl_nI (show k0 < 12 by omega), hG.2.1 k0 a1]
      exact ⟨mf k0, m1, rfl, rfl⟩
    | succ k =>
      have hL4 : L < 4096 := by omega
      have hne : eS n s L ≠ 0 := fun z => by rw [z, pc_0] at hpc; omega
      obtain ⟨q, hq⟩ := lead_ex (cn := cnW X sl) (n := n) (eS_lt hn) hne hpos
      obtain ⟨a1, a2, a3, a4⟩ := fq_mf hn hL4 hG.2.2.1 hq
      have hc := Cs_lt a3 a2
      have b1 := fl_2 hG hn h8 hL fu (Cs s n) 0 (by omega) (by unfold fu; omega)
      have z : nI 0 = (0 : Int32) := rfl
      rw [a1, z] at b1
      have b2 := it_87 (x2 := nI i) (x5 := nI st) hX hC hT eS_sub hs2 (by omega) hpos (F_X7_ith_78 m) fu n 0 (by omega) (by unfold fu; omega) hq
      rw [z] at b2
      have ne : ¬ nI (Cs s q) = -1 := fun z => by
        have := nI_pos (n := Cs s q) (by omega)
        rw [z] at this
        exact this (by decide)
      rw [if_neg (nI_nlt (by omega) (by omega)), if_neg (nI_nlt (by omega) (by omega)), show F_X2_firstLeader u (nI L) = some (nI (Cs s q), u) from b1, bdI_s, if_neg ne, wo_C (show Cs s q < 12 by omega), bdI_s, b2, nI_1]
      have ed := eS_dif hn hL4 hG.2.2.1 hc
      rw [hG.2.2.1 q a2 a3] at ed
      rw [← ed]
      have h2 := pc_dif (eS_lt hn) a4
      rw [← ed] at h2
      have hdl := dif_le L (2 ^ Cs s q)
      exact ih k (st + 1) (dif L (2 ^ Cs s q)) (nI (Cs s q)) (nI q) (by omega) (by omega) (fun _ => ⟨Cs s q, hc, rfl, by rw [hG.2.2.1 q a2 a3]⟩) (by omega) (OC_mono (eS n s L + 1) (eS n s L) (by omega) (eS_lt hn) hpos _ (by rw [ed]; exact dif_sub _ (eS_lt hn))) (by omega)
end
theorem ST20 : ST_20 Rel := by
  intro u v x1 x2 hR
  obtain ⟨n, hA⟩ := hR.1
  obtain ⟨hX, hY⟩ := hA.X
  have hn := hX.1
  rcases set_cases hX.2.1 hY.2.1 hX.1 x1 with ⟨c, m⟩ | ⟨s, hs, hs2, rfl, c, m⟩
  · exact ⟨-1000000001, tC u 0, tM v 0, by unfold F_X6_ith F_X6_ith_21; rw [c]; rfl, by unfold F_X7_ith F_X7_ith_18; rw [m]; rfl, hR.fd 0 (by omega)⟩
  have hpc := pc_Cs hs hs2 hn
  have h12 := pc_12 hs2
  unfold pc at h12
  unfold F_X6_ith F_X6_ith_21 F_X7_ith F_X7_ith_18 F_X7_ith_63
  rw [c, bdI_s, ite10, m, bdI_s, ite10]
  rcases rng 7 7 rfl (by omega) x2 with (h | h) | ⟨i, hi, rfl⟩
  · rw [if_pos h, in_n (Or.inl h), bdI_s, ite00, fd_C0, bdI_s, fd_M0, bdI_s]
    exact ⟨_, _, _, rfl, rfl, hR.fd 0 (by omega)⟩
  · have h0 : ¬ x2 < 0 := fun z => by
      have a := Int32.lt_iff_toInt_lt.mp h
      have b := Int32.lt_iff_toInt_lt.mp z
      rw [show (7 : Int32).toInt = 7 from rfl] at a
      rw [show (0 : Int32).toInt = 0 from rfl] at b
      omega
    have h9 : ¬ x2 < 8 := fun z => by
      have a := Int32.lt_iff_toInt_lt.mp h
      have b := Int32.lt_iff_toInt_lt.mp z
      rw [show (7 : Int32).toInt = 7 from rfl] at a
      rw [show (8 : Int32).toInt = 8 from rfl] at b
      omega
    rw [if_neg h0, if_neg h9, in_n (Or.inr h), bdI_s, ite00, fd_C0, bdI_s, fd_M0, bdI_s]
    exact ⟨_, _, _, rfl, rfl, hR.fd 0 (by omega)⟩
  rw [if_neg (nI_pos (show i < 2 ^ 31 by omega)), if_pos (show nI i < (8 : Int32) from nI_lt (b := 8) (by omega) (by omega)), in_y (nI_pos (show i < 2 ^ 31 by omega)) (show ¬ (7 : Int32) < nI i from nI_nlt (a := 7) (by omega) (by omega)), bdI_s, ite10, bj_C u hs2, bdI_s, ones_M v (by omega), bdI_s]
  by_cases h8 : pcF 32 s ≤ 8
  · rw [if_pos (show nI (pcF 32 s) ≤ (8 : Int32) from nI_le (b := 8) h8 (by omega)), if_pos (show nI (pcF 32 s) ≤ (8 : Int32) from nI_le (b := 8) h8 (by omega))]
    have hl8 := h8
    rw [hpc] at h8
    have hp8 : 2 ^ Cs s n ≤ 2 ^ 8 := Nat.pow_le_pow_right (by decide) h8
    have h256 : (2 : Nat) ^ 8 = 256 := rfl
    have hpos := Nat.two_pow_pos (Cs s n)
    obtain ⟨u1, e1, w1, l1⟩ := weigh_C hX
    obtain ⟨mf, u2, e2, w2, g2, t2⟩ := count_C hn hs2 h8 (w1.X hX).2.1 l1
    obtain ⟨v1, f1, t1, c1, w3⟩ := findOrders_M hY hs2
    have rr := hR.frame (w1.ok.tr w2.ok) w3.ok
    have hlt := OC_lt (cn := cnW (vM v 1 2) (v.1 1 1)) hn hs2 hl8
    unfold F_X2_inFirstOrder F_X2_inFirstOrder_31 F_X6_printOr F_X6_printOr_14
    rw [e1, bdV_s, e2, bdV_s, g2.1, bit_I _ (by omega), show nI (2 ^ Cs s n) - 1 = nI (2 ^ Cs s n - 1) from pk_sub (a := 2 ^ Cs s n) (b := 1) (by omega), gd_nI _ (show 2 ^ Cs s n - 1 < 256 by omega) (by omega), nI_clamp (show 2 ^ Cs s n - 1 < 2 ^ 31 by omega), t2 _ (by omega), eS_all hs, f1, bdV_s, gd_nI _ hs2 (by omega), nI_clamp (show s < 2 ^ 31 by omega), t1 s (by omega) (Sub.rf s), ones_M v1 (by omega), bdI_s, hpc]
    by_cases hic : Cs s n ≤ i
    · rw [if_pos (nI_le hic (by omega)), if_neg (nI_nlt hic (by omega)), ite_self, bdI_s, if_pos rfl, fd_C3, bdI_s, bdI_s, fd_M3, bdI_s]
      exact ⟨_, _, _, rfl, rfl, rr.fd 3 (by omega)⟩
    · rw [if_neg (nI_ge (by omega) (by omega)), if_pos (nI_lt (show i < Cs s n by omega) (by omega))]
      by_cases h0 : OC (cnW (vM v 1 2) (v.1 1 1)) n s = 0
      · rw [h0, if_pos (show nI 0 = (0 : Int32) from rfl), if_pos (show nI 0 = (0 : Int32) from rfl), bdI_s, if_pos rfl, fd_C3, bdI_s, bdI_s, fd_M3, bdI_s]
        exact ⟨_, _, _, rfl, rfl, rr.fd 3 (by omega)⟩
      · have ea := eS_all hs
        obtain ⟨q, hq, a1, a2⟩ := ith_L (i := i) g2 (w3.mx hY) c1 t1 hs2 h8 (by omega) fu (i + 1) 0 (2 ^ Cs s n - 1) (-1) 0 (by omega) (by unfold fu; omega) (fun z => absurd z (by omega)) (by omega) (by rw [ea]; omega) (by rw [ea]; show pcF 32 s + 0 = _; omega)
        rw [ea] at a2
        have z : nI 0 = (0 : Int32) := rfl
        rw [z] at a1 a2
        have ne : ¬ nI q = -1 := fun z => by
          have := nI_pos (n := q) (by omega)
          rw [z] at this
          exact this (by decide)
        rw [if_neg (nI_ne0 (by omega) hlt), if_neg (nI_ne0 (by omega) hlt), a1, bdI_s, if_neg ne, bdI_s]
        exact ⟨_, _, _, rfl, a2, rr⟩
  · rw [if_neg (show ¬ nI (pcF 32 s) ≤ (8 : Int32) from nI_ge (a := 8) (by omega) (by omega)), if_neg (show ¬ nI (pcF 32 s) ≤ (8 : Int32) from nI_ge (a := 8) (by omega) (by omega)), fd_C6, bdI_s, fd_M6, bdI_s]
    exact ⟨_, _, _, rfl, rfl, hR.fd 6 (by omega)⟩
