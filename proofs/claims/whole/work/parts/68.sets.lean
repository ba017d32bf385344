/-! PURE: sets as bits -/
theorem nx_or (a b : Nat) : nI a ||| nI b = nI (a ||| b) := by
  apply Int32.toBitVec_inj.1
  show BitVec.ofNat 32 a ||| BitVec.ofNat 32 b = BitVec.ofNat 32 (a ||| b)
  apply BitVec.eq_of_getLsbD_eq
  intro i hi
  simp [hi]
def dif (x y : Nat) : Nat := x &&& (y ^^^ 4294967295)
theorem m1_nI : (-1 : Int32) = nI 4294967295 := by decide +kernel
theorem dif_I (x y : Nat) : nI x &&& (nI y ^^^ -1) = nI (dif x y) := by rw [m1_nI, nx_xor, nx_and]; rfl
theorem tb32 : ∀ q, q < 32 → (4294967295 : Nat).testBit q = true := by decide +kernel
theorem tb_out {x k q : Nat} (h : x < 2 ^ k) (hq : k ≤ q) : x.testBit q = false := Nat.testBit_lt_two_pow (Nat.lt_of_lt_of_le h (Nat.pow_le_pow_right (by decide) hq))
theorem dif_t {x y q : Nat} (hx : x < 4096) : (dif x y).testBit q = (x.testBit q && !y.testBit q) := by
  unfold dif
  rw [Nat.testBit_and, Nat.testBit_xor]
  by_cases h : q < 32
  · rw [tb32 q h]; cases y.testBit q <;> rfl
  · rw [tb_out (k := 12) hx (by omega)]; rfl
theorem dif_le (x y : Nat) : dif x y ≤ x := Nat.and_le_left
theorem zero_t {x : Nat} : x = 0 ↔ ∀ q, x.testBit q = false := ⟨fun h q => by rw [h, Nat.zero_testBit], fun h => Nat.eq_of_testBit_eq (fun q => by rw [h q, Nat.zero_testBit])⟩
theorem zero_t12 {x : Nat} (hx : x < 4096) : x = 0 ↔ ∀ q, q < 12 → x.testBit q = false := ⟨fun h q _ => by rw [h, Nat.zero_testBit], fun h => zero_t.mpr (fun q => by
  by_cases hq : q < 12
  · exact h q hq
  · exact tb_out (k := 12) hx (by omega))⟩
theorem eq_t12 {x y : Nat} (hx : x < 4096) (hy : y < 4096) (h : ∀ q, q < 12 → x.testBit q = y.testBit q) : x = y := Nat.eq_of_testBit_eq (fun q => by
  by_cases hq : q < 12
  · exact h q hq
  · rw [tb_out (k := 12) hx (by omega), tb_out (k := 12) hy (by omega)])
theorem bit_I : ∀ p, p < 13 → (1 : Int32) <<< (nI p &&& 31) = nI (2 ^ p) := by decide +kernel
theorem smod_I : ∀ p, p < 13 → ((nI p &&& 31).toBitVec.smod 32).toNat = p := by decide +kernel
theorem neg_I : ∀ p, p < 13 → -((1 : Int32) <<< (nI p &&& 31)) = nI (2 ^ p - 1) ^^^ -1 := by decide +kernel
theorem p2_lt {p : Nat} (h : p < 12) : 2 ^ p < 4096 := Nat.pow_lt_pow_right (a := 2) (m := p) (n := 12) (by decide) h
theorem p2_le {p : Nat} (h : p < 13) : 2 ^ p ≤ 4096 := (Nat.pow_le_pow_right (by decide) (by omega) : 2 ^ p ≤ 2 ^ 12)
theorem nI0 {x : Nat} (hx : x < 4096) : nI x = 0 ↔ x = 0 := nI_eq (b := 0) (by omega) (by omega)
theorem has_M {v : Mem} {s p : Nat} (hs : s < 4096) (hp : p < 12) : F_X7_has v (nI s) (nI p) = some (bi (s.testBit p), v) := by
  unfold F_X7_has F_X7_has_14
  rw [pk_shrN (by omega) _ p (smod_I p (by omega)), show (1 : Int32) = nI 1 from rfl, nx_and, Nat.and_one_is_mod, Nat.testBit_eq_decide_div_mod_eq]
  by_cases h : s / 2 ^ p % 2 = 1
  · rw [h, if_pos rfl, decide_eq_true rfl]; rfl
  · rw [if_neg (fun e => h ((nI_eq (by omega) (by omega)).mp e)), decide_eq_false h]; rfl
theorem isIn_C {u : Mem} {s p : Nat} (hs : s < 4096) (hp : p < 12) : F_X2_isIn u (nI s) (nI p) = some (bi (s.testBit p), u) := by
  unfold F_X2_isIn F_X2_isIn_13
  have hl : s &&& 2 ^ p < 4096 := Nat.lt_of_le_of_lt Nat.and_le_left hs
  rw [bit_I p (by omega), nx_and]
  cases h : s.testBit p
  · rw [if_pos]
    · rfl
    · rw [nI0 hl, zero_t]
      intro q
      rw [Nat.testBit_and, Nat.testBit_two_pow]
      by_cases e : p = q
      · rw [← e, h]; rfl
      · rw [decide_eq_false e, Bool.and_false]
  · rw [if_neg]
    · rfl
    · rw [nI0 hl, zero_t]
      intro z
      have := z p
      rw [Nat.testBit_and, Nat.testBit_two_pow, h, decide_eq_true rfl] at this
      exact absurd this (by decide)
theorem wo_C {u : Mem} {s p : Nat} (hp : p < 12) : F_X2_without u (nI s) (nI p) = some (nI (dif s (2 ^ p)), u) := by
  unfold F_X2_without
  rw [bit_I p (by omega), dif_I]
def setb (x b : Nat) (z : Bool) : Nat := if z then x ||| 2 ^ b else dif x (2 ^ b)
theorem or_lt12 {x y : Nat} (hx : x < 4096) (hy : y < 4096) : x ||| y < 4096 := Nat.or_lt_two_pow (n := 12) hx hy
theorem setb_lt {x b : Nat} {z : Bool} (hx : x < 4096) (hb : b < 12) : setb x b z < 4096 := by
  cases z
  · exact Nat.lt_of_le_of_lt (dif_le _ _) hx
  · exact or_lt12 hx (p2_lt hb)
theorem setb_t {x b q : Nat} {z : Bool} (hx : x < 4096) : (setb x b z).testBit q = if q = b then z else x.testBit q := by
  cases z
  · show (dif x (2 ^ b)).testBit q = _
    rw [dif_t hx, Nat.testBit_two_pow]
    by_cases h : q = b
    · subst h; simp
    · rw [if_neg h, decide_eq_false (fun e => h e.symm)]; simp
  · show (x ||| 2 ^ b).testBit q = _
    rw [Nat.testBit_or, Nat.testBit_two_pow]
    by_cases h : q = b
    · subst h; simp
    · rw [if_neg h, decide_eq_false (fun e => h e.symm)]; simp
theorem note_C {u : Mem} {c N a b x : Nat} {z : Bool} (hl : lenC c = N) (ha : a < N) (hN : N ≤ 12) (hb : b < 12) (e : u.1 c a = nI x) : F_X2_note u c (nI a) (nI b) (bi z) = some (sI u c a (nI (setb x b z))) := by
  unfold F_X2_note F_X2_note_28
  have hg : ∀ (y : Option Mem), gd (nI a) N y = y := fun y => gd_nI y ha (by omega)
  rw [hl, hg, hg, hg, hg, nI_clamp (show a < 2 ^ 31 by omega), e, bit_I b (by omega), dif_I, nx_or]
  cases z <;> rfl
/-! the sets asked about -/
theorem all_M {v : Mem} {n : Nat} {x : Int32} (h : v.1 1 0 = nI n) (hn : n ≤ 12) : F_X7_isSet v x = some (bi (decide (¬ x < 0 ∧ ¬ nI (2 ^ n - 1) < x)), v) := by
  unfold F_X7_isSet
  rw [gd_c0, cl_0, h, bit_I n (by omega), show nI (2 ^ n) - 1 = nI (2 ^ n - 1) from pk_sub (a := 2 ^ n) (b := 1) (Nat.two_pow_pos n), in_M, bdI_s, gz_bi]
theorem set_cases {u v : Mem} {n : Nat} (h1 : u.1 4 1 = nI n) (h2 : v.1 1 0 = nI n) (hn : n ≤ 12) (x : Int32) : (F_X0_hasAll 1 u x = some (0, u) ∧ F_X7_isSet v x = some (0, v)) ∨ ∃ s, s < 2 ^ n ∧ s < 4096 ∧ x = nI s ∧ F_X0_hasAll 1 u x = some (1, u) ∧ F_X7_isSet v x = some (1, v) := by
  have hp := p2_le (p := n) (by omega)
  obtain ⟨X, hX, rfl⟩ : ∃ X, X < 2 ^ 32 ∧ x = nI X := ⟨x.toBitVec.toNat, x.toBitVec.isLt, by
    apply Int32.toBitVec_inj.1
    show x.toBitVec = BitVec.ofNat 32 x.toBitVec.toNat
    rw [BitVec.ofNat_toNat, BitVec.setWidth_eq]⟩
  have hC : F_X0_hasAll 1 u (nI X) = if nI (dif X (2 ^ n - 1)) = 0 then some (1, u) else some (0, u) := by
    unfold F_X0_hasAll F_X0_hasAll_17
    rw [show u.1 (1 + 3) 1 = nI n from h1, neg_I n (by omega), dif_I]; rfl
  have hd : dif X (2 ^ n - 1) < 2 ^ 32 := Nat.lt_of_le_of_lt (dif_le _ _) hX
  have hz : nI (dif X (2 ^ n - 1)) = 0 ↔ dif X (2 ^ n - 1) = 0 := by
    constructor
    · intro h
      have h2 := congrArg (fun z : Int32 => z.toBitVec.toNat) h
      have h3 : (nI (dif X (2 ^ n - 1))).toBitVec.toNat = _ := pk_tn hd
      rw [h3] at h2
      exact h2
    · intro h; rw [h]; rfl
  by_cases hs : X < 2 ^ n
  · refine Or.inr ⟨X, hs, by omega, rfl, ?_, ?_⟩
    · rw [hC, if_pos]
      rw [hz, zero_t]
      intro q
      unfold dif
      rw [Nat.testBit_and, Nat.testBit_xor, Nat.testBit_two_pow_sub_one]
      by_cases hq : q < n
      · rw [tb32 q (by omega), decide_eq_true hq]; simp
      · rw [tb_out hs (by omega)]; rfl
    · rw [all_M h2 hn, decide_eq_true ⟨nI_pos (by omega), nI_nlt (by omega) (by omega)⟩]; rfl
  · refine Or.inl ⟨?_, ?_⟩
    · rw [hC, if_neg]
      rw [hz, zero_t]
      intro h
      refine hs (Nat.lt_pow_two_of_testBit X (fun q hq => ?_))
      by_cases h32 : q < 32
      · have := h q
        unfold dif at this
        rw [Nat.testBit_and, Nat.testBit_xor, Nat.testBit_two_pow_sub_one, tb32 q h32, decide_eq_false (by omega)] at this
        simpa using this
      · exact tb_out hX (by omega)
    · rw [all_M h2 hn, decide_eq_false]
      · rfl
      · rintro ⟨g1, g2⟩
        obtain ⟨j, hj, ej⟩ := nI_of g1
        have e : X = j := by
          have := congrArg (fun z : Int32 => z.toBitVec.toNat) ej
          have e1 : (nI X).toBitVec.toNat = X := pk_tn hX
          have e2 : (nI j).toBitVec.toNat = j := pk_tn (by omega)
          rw [e1, e2] at this
          exact this
        subst e
        have := Nat.two_pow_pos n
        exact g2 (nI_lt (by omega) hj)
/-! the prints, as both sides see them -/
def CX (u : Mem) (n : Nat) (X : Nat → PV) (sl : Int32) : Prop := n ≤ 12 ∧ u.1 4 1 = nI n ∧ u.1 4 2 = sl ∧ ∀ p, p < n → prC u (28 + p) = X p ∧ okP (X p)
def MX (v : Mem) (n : Nat) (X : Nat → PV) (sl : Int32) : Prop := n ≤ 12 ∧ v.1 1 0 = nI n ∧ v.1 1 1 = sl ∧ ∀ p, p < n → vM v 1 2 p = X p ∧ okP (X p)
theorem RAr.X {u v : Mem} {n : Nat} (hA : RAr u v 1 1 2 n) : CX u n (vM v 1 2) (v.1 1 1) ∧ MX v n (vM v 1 2) (v.1 1 1) :=
  ⟨⟨hA.1, hA.2.1, hA.sl, fun _ hp => ⟨hA.at hp, hA.ok hp⟩⟩, ⟨hA.1, hA.2.2.1, rfl, fun _ hp => ⟨rfl, hA.ok hp⟩⟩⟩
def erP (x y : PV) (a b : Nat) : Bool := decide (x.2.2.1 < y.2.2.1) || (decide (x.2.2.1 = y.2.2.1) && decide (a < b))
def cnW (X : Nat → PV) (sl : Int32) (a b : Nat) : Bool := canP (X a) (X b) sl
def erW (X : Nat → PV) (a b : Nat) : Bool := erP (X a) (X b) a b
def onW (X : Nat → PV) (sl : Int32) (a b : Nat) : Bool := if erW X a b then cnW X sl a b else cnW X sl b a
theorem er_C {u : Mem} {a b : Nat} (ha : a < 12) (hb : b < 12) : F_X0_isEarlier 1 u (nI a) (nI b) = some (bi (erP (prC u (28 + a)) (prC u (28 + b)) a b), u) := by
  unfold F_X0_isEarlier F_X0_isEarlier_38 F_X0_isEarlier_42 F_X0_isEarlier_43 erP
  rw [gd_nI _ ha (by omega), gd_nI _ hb (by omega), cl_nI ha, cl_nI hb, show 12 * 1 + 16 + a = 28 + a by omega, show 12 * 1 + 16 + b = 28 + b by omega]
  show _ = some (bi (decide (u.1 (28 + a) 2 < u.1 (28 + b) 2) || (decide (u.1 (28 + a) 2 = u.1 (28 + b) 2) && decide (a < b))), u)
  by_cases h1 : u.1 (28 + a) 2 < u.1 (28 + b) 2
  · rw [if_pos h1, decide_eq_true h1]; rfl
  · rw [if_neg h1, decide_eq_false h1]
    by_cases h2 : u.1 (28 + a) 2 = u.1 (28 + b) 2
    · rw [if_pos h2, decide_eq_true h2]
      by_cases h3 : a < b
      · rw [if_neg (nI_ge h3 (by omega)), decide_eq_true h3]; rfl
      · rw [if_pos (nI_le (by omega) (by omega)), decide_eq_false h3]; rfl
    · rw [if_neg h2, decide_eq_false h2]; rfl
theorem er_M {v : Mem} {a b : Nat} (ha : a < 12) (hb : b < 12) : F_X7_isEarlier v (nI a) (nI b) = some (bi (erP (vM v 1 2 a) (vM v 1 2 b) a b), v) := by
  unfold F_X7_isEarlier F_X7_isEarlier_35 F_X7_isEarlier_39 F_X7_isEarlier_40 erP
  rw [its_M2 ha, bdI_s, its_M2 hb, bdI_s]
  by_cases h1 : (vM v 1 2 a).2.2.1 < (vM v 1 2 b).2.2.1
  · rw [if_pos h1, decide_eq_true h1]; rfl
  · rw [if_neg h1, decide_eq_false h1, its_M2 ha, bdI_s, its_M2 hb, bdI_s]
    by_cases h2 : (vM v 1 2 a).2.2.1 = (vM v 1 2 b).2.2.1
    · rw [if_pos h2, decide_eq_true h2]
      by_cases h3 : a < b
      · rw [if_neg (nI_ge h3 (by omega)), decide_eq_true h3]; rfl
      · rw [if_pos (nI_le (by omega) (by omega)), decide_eq_false h3]; rfl
    · rw [if_neg h2, decide_eq_false h2]; rfl
theorem erW_iff {X : Nat → PV} {a b : Nat} : erW X a b = true ↔ (X a).2.2.1.toInt < (X b).2.2.1.toInt ∨ ((X a).2.2.1.toInt = (X b).2.2.1.toInt ∧ a < b) := by
  unfold erW erP
  rw [Bool.or_eq_true, Bool.and_eq_true, decide_eq_true_eq, decide_eq_true_eq, decide_eq_true_eq, Int32.lt_iff_toInt_lt, Int32.toInt_inj]
theorem erW_tr {X : Nat → PV} {a b c : Nat} (h : erW X a b = true) (g : erW X b c = true) : erW X a c = true := by
  rw [erW_iff] at h g ⊢; omega
theorem erW_not {X : Nat → PV} {a b : Nat} (hne : a ≠ b) : erW X a b = !erW X b a := by
  cases h : erW X a b <;> cases g : erW X b a <;> try rfl
  · have h' : ¬ erW X a b = true := by rw [h]; decide
    have g' : ¬ erW X b a = true := by rw [g]; decide
    rw [erW_iff] at h' g'; omega
  · rw [erW_iff] at h g; omega
theorem erW_ir {X : Nat → PV} {a : Nat} : erW X a a = false := by
  cases h : erW X a a
  · rfl
  · rw [erW_iff] at h; omega
theorem onW_sym {X : Nat → PV} {sl : Int32} {a b : Nat} (hne : a ≠ b) : onW X sl a b = onW X sl b a := by
  unfold onW
  rw [erW_not hne]
  cases erW X b a
  · rw [if_pos (show (!false) = true from rfl), if_neg (show ¬ false = true by decide)]
  · rw [if_neg (show ¬ (!true) = true by decide), if_pos (show true = true from rfl)]
theorem gap_val {a b : PV} {s t : Nat} (hs : s ≤ 20000) (ht : t ≤ 20000) (es : twP a = nI s) (et : twP b = nI t) : gapP a b = nI ((s - t) + (t - s)) := by
  unfold gapP
  rw [es, et]
  by_cases h : t ≤ s
  · rw [pk_sub h, if_pos (nI_pos' (by omega)), show (s - t) + (t - s) = s - t by omega]
  · have e : nI s - nI t = -(nI (t - s)) := by rw [← pk_sub (a := t) (b := s) (by omega), Int32.neg_sub]
    have n0 : ¬ 0 ≤ -(nI (t - s)) := by
      rw [Int32.le_iff_toInt_le, sb_negT (by omega), show (0 : Int32).toInt = 0 from rfl]
      omega
    rw [e, if_neg n0, Int32.zero_sub, Int32.neg_neg, show (s - t) + (t - s) = t - s by omega]
theorem gap_sym {a b : PV} (ha : okP a) (hb : okP b) : gapP a b = gapP b a := by
  obtain ⟨s, hs, es⟩ := tw_rng ha
  obtain ⟨t, ht, et⟩ := tw_rng hb
  rw [gap_val hs ht es et, gap_val ht hs et es, Nat.add_comm]
/-! the class weighs -/
def Row (u : Mem) (c p : Nat) (f : Nat → Bool) : Prop := ∃ x, x < 4096 ∧ u.1 c p = nI x ∧ ∀ q, q < 12 → x.testBit q = f q
def LM (u : Mem) (f g : Nat → Nat → Bool) : Prop := ∀ p, p < 12 → Row u 8 p (f p) ∧ Row u 9 p (g p)
def W89 (u u2 : Mem) : Prop := u2.2 = u.2 ∧ ∀ c, c ≠ 8 → c ≠ 9 → u2.1 c = u.1 c
theorem W89.rf (u : Mem) : W89 u u := ⟨rfl, fun _ _ _ => rfl⟩
theorem W89.tr {u u2 u3 : Mem} (h : W89 u u2) (g : W89 u2 u3) : W89 u u3 := ⟨g.1.trans h.1, fun c a b => (g.2 c a b).trans (h.2 c a b)⟩
theorem W89.ok {u u2 : Mem} (h : W89 u u2) : okC u u2 := fun i a _ _ => ⟨h.2 i (by omega) (by omega), by rw [h.1]⟩
theorem W89.X {u u2 : Mem} {n : Nat} {X : Nat → PV} {sl : Int32} (h : W89 u u2) (g : CX u n X sl) : CX u2 n X sl := by
  have e := h.2 4 (by decide) (by decide)
  refine ⟨g.1, by rw [e]; exact g.2.1, by rw [e]; exact g.2.2.1, fun p hp => ?_⟩
  rw [prC_eq (u2 := u2) (u := u) (h.2 _ (by omega) (by omega)) (by rw [h.1])]
  exact g.2.2.2 p hp
def updF (f : Nat → Nat → Bool) (a b : Nat) (z : Bool) : Nat → Nat → Bool := fun p q => if p = a ∧ q = b then z else f p q
theorem Row.congr {u u2 : Mem} {c p : Nat} {f g : Nat → Bool} (h : Row u c p f) (e : u2.1 c p = u.1 c p) (he : ∀ q, q < 12 → f q = g q) : Row u2 c p g := by
  obtain ⟨x, a, b, d⟩ := h
  exact ⟨x, a, by rw [e, b], fun q hq => by rw [d q hq, he q hq]⟩
theorem LM.congr {u : Mem} {f g f2 g2 : Nat → Nat → Bool} (h : LM u f g) (e1 : ∀ p q, p < 12 → q < 12 → f p q = f2 p q) (e2 : ∀ p q, p < 12 → q < 12 → g p q = g2 p q) : LM u f2 g2 := fun p hp => ⟨(h p hp).1.congr rfl (fun q hq => e1 p q hp hq), (h p hp).2.congr rfl (fun q hq => e2 p q hp hq)⟩
theorem Row.note {u : Mem} {c N a b : Nat} {z : Bool} {f : Nat → Bool} (h : Row u c a f) (hl : lenC c = N) (ha : a < N) (hN : N ≤ 12) (hb : b < 12) : ∃ x, F_X2_note u c (nI a) (nI b) (bi z) = some (sI u c a x) ∧ Row (sI u c a x) c a (fun q => if q = b then z else f q) := by
  obtain ⟨x, h1, h2, h3⟩ := h
  refine ⟨nI (setb x b z), note_C hl ha hN hb h2, setb x b z, setb_lt h1 hb, sI_eq, fun q hq => ?_⟩
  rw [setb_t h1, h3 q hq]
theorem LM.n8 {u : Mem} {f g : Nat → Nat → Bool} {a b : Nat} {z : Bool} (h : LM u f g) (ha : a < 12) (hb : b < 12) : ∃ u', F_X2_note u 8 (nI a) (nI b) (bi z) = some u' ∧ W89 u u' ∧ LM u' (updF f a b z) g := by
  obtain ⟨x, e, hr⟩ := (h a ha).1.note (N := 12) (z := z) rfl ha (by omega) hb
  refine ⟨_, e, ⟨rfl, fun c h8 _ => funext fun j => sI_i h8⟩, fun p hp => ⟨?_, (h p hp).2.congr (sI_i (by decide)) (fun _ _ => rfl)⟩⟩
  by_cases hpa : p = a
  · subst hpa
    exact hr.congr rfl (fun q hq => by unfold updF; simp)
  · exact (h p hp).1.congr (sI_k hpa) (fun q hq => by unfold updF; rw [if_neg (fun z => hpa z.1)])
theorem LM.n9 {u : Mem} {f g : Nat → Nat → Bool} {a b : Nat} {z : Bool} (h : LM u f g) (ha : a < 12) (hb : b < 12) : ∃ u', F_X2_note u 9 (nI a) (nI b) (bi z) = some u' ∧ W89 u u' ∧ LM u' f (updF g a b z) := by
  obtain ⟨x, e, hr⟩ := (h a ha).2.note (N := 12) (z := z) rfl ha (by omega) hb
  refine ⟨_, e, ⟨rfl, fun c _ h9 => funext fun j => sI_i h9⟩, fun p hp => ⟨(h p hp).1.congr (sI_i (by decide)) (fun _ _ => rfl), ?_⟩⟩
  by_cases hpa : p = a
  · subst hpa
    exact hr.congr rfl (fun q hq => by unfold updF; simp)
  · exact (h p hp).2.congr (sI_k hpa) (fun q hq => by unfold updF; rw [if_neg (fun z => hpa z.1)])
theorem wp_75 {u : Mem} {f g : Nat → Nat → Bool} {a b : Nat} {x y z : Bool} (h : LM u f g) (ha : a < 12) (hb : b < 12) : ∃ u', F_X2_weighPair_75 u (nI a) (nI b) (bi x) (bi y) (bi z) = some u' ∧ W89 u u' ∧ LM u' (updF (updF f a b x) b a y) (updF (updF g a b z) b a z) := by
  obtain ⟨u1, e1, w1, l1⟩ := h.n8 (z := x) ha hb
  obtain ⟨u2, e2, w2, l2⟩ := l1.n8 (z := y) hb ha
  obtain ⟨u3, e3, w3, l3⟩ := l2.n9 (z := z) ha hb
  obtain ⟨u4, e4, w4, l4⟩ := l3.n9 (z := z) hb ha
  refine ⟨u4, ?_, w1.tr (w2.tr (w3.tr w4)), l4⟩
  unfold F_X2_weighPair_75
  rw [e1, bdV_s, e2, bdV_s, e3, bdV_s, e4, bdV_s]
theorem wp_C {u : Mem} {n : Nat} {X : Nat → PV} {sl : Int32} {f g : Nat → Nat → Bool} {a b : Nat} (hX : CX u n X sl) (h : LM u f g) (ha : a < n) (hb : b < n) : ∃ u', F_X2_weighPair u (nI a) (nI b) = some u' ∧ W89 u u' ∧ LM u' (updF (updF f a b (cnW X sl a b)) b a (cnW X sl b a)) (updF (updF g a b (onW X sl a b)) b a (onW X sl a b)) := by
  have hn := hX.1
  have ha2 : a < 12 := by omega
  have hb2 : b < 12 := by omega
  have pa := hX.2.2.2 a ha
  have pb := hX.2.2.2 b hb
  have q1 := mkC (u := u) (t := 1) ha2 hb2
  have q2 := mkC (u := u) (t := 1) hb2 ha2
  have q3 := gapC (u := u) (t := 1) ha2 hb2
  have q4 := er_C (u := u) ha2 hb2
  rw [show 12 * 1 + 16 + a = 28 + a by omega, show 12 * 1 + 16 + b = 28 + b by omega, pa.1, pb.1] at q1 q2 q3
  rw [pa.1, pb.1] at q4
  have hgap := gap_sym pa.2 pb.2
  have key : F_X2_weighPair u (nI a) (nI b) = F_X2_weighPair_75 u (nI a) (nI b) (bi (cnW X sl a b)) (bi (cnW X sl b a)) (bi (onW X sl a b)) := by
    unfold onW cnW canP erW
    rw [hgap]
    simp only [F_X2_weighPair, F_X2_weighPair_30, F_X2_weighPair_31, F_X2_weighPair_53, F_X2_weighPair_54, F_X0_widthsAllow, F_X0_widthsAllow_18, q1, q2, q3, q4, bdI_s, show u.1 (1 + 3) 2 = sl from hX.2.2.1, hgap]
    by_cases h1 : sl < gapP (X b) (X a)
    · cases e1 : erP (X a) (X b) a b <;> simp [h1, e1, bi, gz_0, gz_1, bdI_s, q1, q2, q4]
    · cases e1 : erP (X a) (X b) a b <;> cases e2 : mkP (X a) (X b) <;> cases e3 : mkP (X b) (X a) <;> simp [h1, e1, e2, e3, bi, gz_0, gz_1, bdI_s, q1, q2, q4]
  rw [key]
  exact wp_75 h ha2 hb2
