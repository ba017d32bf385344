theorem wb_tb (n : Nat) : (lN n).toBitVec = BitVec.ofNat 64 n := rfl
theorem wb_inj {a b : Int64} (h : a.toBitVec = b.toBitVec) : a = b := Int64.toBitVec_inj.mp h
theorem wb_tn {n : Nat} (h : n < 2 ^ 64) : (lN n).toBitVec.toNat = n := by rw [wb_tb, BitVec.toNat_ofNat, Nat.mod_eq_of_lt h]
theorem wb_of (x : Int64) : ∃ n, n < 2 ^ 64 ∧ x = lN n := ⟨x.toBitVec.toNat, x.toBitVec.isLt, wb_inj (by rw [wb_tb]; simp)⟩
theorem wb_c : ∀ k, k < 64 → ((nI k).toInt64 &&& 63) = lN k := by decide +kernel
theorem wb_cu : ∀ k, k < 64 → ((nI k).toInt64.toUInt64 &&& Int64.toUInt64 63) = UInt64.ofNat k := by decide +kernel
theorem wb_sm : ∀ k, k < 64 → (BitVec.ofNat 64 k).smod 64 = BitVec.ofNat 64 k := by decide +kernel
theorem wb_shr {n k : Nat} (hn : n < 2 ^ 64) (hk : k < 64) : ((lN n).toUInt64 >>> ((nI k).toInt64.toUInt64 &&& Int64.toUInt64 63)).toInt64 = lN (n / 2 ^ k) := by
  rw [wb_cu k hk]
  apply wb_inj
  apply BitVec.eq_of_toNat_eq
  show ((lN n).toUInt64 >>> UInt64.ofNat k).toNat = (BitVec.ofNat 64 _).toNat
  have h1 : (UInt64.ofNat k).toNat = k := by
    show (BitVec.ofNat 64 k).toNat = k
    rw [BitVec.toNat_ofNat, Nat.mod_eq_of_lt (by omega)]
  have h2 : (lN n).toUInt64.toNat = n := wb_tn hn
  rw [UInt64.toNat_shiftRight, h1, h2, Nat.mod_eq_of_lt hk, Nat.shiftRight_eq_div_pow, BitVec.toNat_ofNat, Nat.mod_eq_of_lt (Nat.lt_of_le_of_lt (Nat.div_le_self _ _) hn)]
theorem wb_and {a b : Nat} (ha : a < 2 ^ 64) (hb : b < 2 ^ 64) : lN a &&& lN b = lN (a &&& b) := by
  apply wb_inj
  rw [Int64.toBitVec_and, wb_tb, wb_tb, wb_tb]
  apply BitVec.eq_of_toNat_eq
  rw [BitVec.toNat_and, BitVec.toNat_ofNat, BitVec.toNat_ofNat, BitVec.toNat_ofNat, Nat.mod_eq_of_lt ha, Nat.mod_eq_of_lt hb, Nat.mod_eq_of_lt (Nat.and_lt_two_pow _ hb)]
theorem wb_or {a b : Nat} (ha : a < 2 ^ 64) (hb : b < 2 ^ 64) : lN a ||| lN b = lN (a ||| b) := by
  apply wb_inj
  rw [Int64.toBitVec_or, wb_tb, wb_tb, wb_tb]
  apply BitVec.eq_of_toNat_eq
  rw [BitVec.toNat_or, BitVec.toNat_ofNat, BitVec.toNat_ofNat, BitVec.toNat_ofNat, Nat.mod_eq_of_lt ha, Nat.mod_eq_of_lt hb, Nat.mod_eq_of_lt (Nat.or_lt_two_pow ha hb)]

theorem nx_and (a b : Nat) : nI a &&& nI b = nI (a &&& b) := by
  apply Int32.toBitVec_inj.1
  show BitVec.ofNat 32 a &&& BitVec.ofNat 32 b = BitVec.ofNat 32 (a &&& b)
  apply BitVec.eq_of_getLsbD_eq
  intro i hi
  simp [hi]
theorem nx_xor (a b : Nat) : nI a ^^^ nI b = nI (a ^^^ b) := by
  apply Int32.toBitVec_inj.1
  show BitVec.ofNat 32 a ^^^ BitVec.ofNat 32 b = BitVec.ofNat 32 (a ^^^ b)
  apply BitVec.eq_of_getLsbD_eq
  intro i hi
  simp [hi]

/-! PURE: how many bits. The JDK's way, byte by byte, and the reference's, bit by bit. -/
def pcF : Nat → Nat → Nat
  | 0, _ => 0
  | k + 1, n => n % 2 + pcF k (n / 2)
theorem pcF_le : ∀ k n, pcF k n ≤ k := by
  intro k
  induction k with
  | zero => intro n; exact Nat.le_refl 0
  | succ k ih => intro n; have := ih (n / 2); unfold pcF; omega
theorem pcF_0 : ∀ k, pcF k 0 = 0 := by
  intro k
  induction k with
  | zero => rfl
  | succ k ih => unfold pcF; simp [ih]
theorem pcF_s (k n : Nat) : pcF (k + 1) n = n % 2 + pcF k (n / 2) := rfl
theorem pcF_add (b : Nat) : ∀ a n, pcF (a + b) n = pcF a n + pcF b (n / 2 ^ a) := by
  intro a
  induction a with
  | zero => intro n; simp [pcF]
  | succ a ih =>
    intro n
    rw [show a + 1 + b = (a + b) + 1 by omega, pcF_s, pcF_s, ih, Nat.div_div_eq_div_mul, ← Nat.pow_succ', Nat.add_assoc]
theorem pcF_mod : ∀ a n, pcF a (n % 2 ^ a) = pcF a n := by
  intro a
  induction a with
  | zero => intro n; rfl
  | succ a ih =>
    intro n
    unfold pcF
    have e1 : n % 2 ^ (a + 1) % 2 = n % 2 := Nat.mod_mod_of_dvd n (Nat.pow_dvd_pow 2 (show 1 ≤ a + 1 by omega))
    have e2 : n % 2 ^ (a + 1) / 2 = n / 2 % 2 ^ a := by rw [Nat.pow_succ', Nat.mod_mul_right_div_self]
    rw [e1, e2, ih]
theorem and_low {n : Nat} (h : 0 < n) (k : Nat) (hk : n < 2 ^ k) : pcF k (n &&& (n - 1)) + 1 = pcF k n := by
  induction k generalizing n with
  | zero => simp at hk; omega
  | succ k ih =>
    have hd : (n &&& (n - 1)) / 2 = n / 2 &&& (n - 1) / 2 := Nat.and_div_two
    rcases Nat.mod_two_eq_zero_or_one n with h0 | h1
    · have hm : (n &&& (n - 1)) % 2 = 0 := by
        rcases Nat.mod_two_eq_zero_or_one (n &&& (n - 1)) with z | z
        · exact z
        · have := (Nat.and_mod_two_eq_one.mp z).1; omega
      have e : (n - 1) / 2 = n / 2 - 1 := by omega
      have := ih (n := n / 2) (by omega) (by rw [Nat.pow_succ'] at hk; omega)
      unfold pcF
      rw [hm, hd, e, h0]
      omega
    · have hm : (n &&& (n - 1)) % 2 = 0 := by
        rcases Nat.mod_two_eq_zero_or_one (n &&& (n - 1)) with z | z
        · exact z
        · have := (Nat.and_mod_two_eq_one.mp z).2; omega
      have e : (n - 1) / 2 = n / 2 := by omega
      unfold pcF
      rw [hm, hd, e, Nat.and_self, h1]
      omega
theorem and_sub1_lt {n : Nat} (h : 0 < n) : n &&& (n - 1) < n := Nat.lt_of_le_of_lt Nat.and_le_right (by omega)
def rp (b : Nat) : Nat → Nat
  | 0 => 0
  | k + 1 => b + 256 * rp b k
theorem and_sp (a d : Nat) {c : Nat} (hc : c < 256) : a &&& (c + 256 * d) = (a % 256 &&& c) + 256 * (a / 256 &&& d) := by
  have h1 : (a &&& (c + 256 * d)) % 2 ^ 8 = (a % 2 ^ 8) &&& ((c + 256 * d) % 2 ^ 8) := Nat.and_mod_two_pow
  have h2 : (a &&& (c + 256 * d)) / 2 ^ 8 = a / 2 ^ 8 &&& (c + 256 * d) / 2 ^ 8 := Nat.and_div_two_pow
  have e1 : (c + 256 * d) % 2 ^ 8 = c := by omega
  have e2 : (c + 256 * d) / 2 ^ 8 = d := by omega
  rw [e1, show (2 : Nat) ^ 8 = 256 from rfl] at h1
  rw [e2, show (2 : Nat) ^ 8 = 256 from rfl] at h2
  have h3 := Nat.mod_add_div (a &&& (c + 256 * d)) 256
  omega
def t1 (k x : Nat) : Nat := x - (x / 2 &&& rp 85 k)
def t2 (k x : Nat) : Nat := (x &&& rp 51 k) + (x / 4 &&& rp 51 k)
def t3 (k x : Nat) : Nat := (x + x / 16) &&& rp 15 k
def o1 (l : Nat) : Nat := l - (l / 2 &&& 85)
def o2 (l : Nat) : Nat := (l &&& 51) + (l / 4 &&& 51)
theorem o_a : ∀ l, l < 256 → ∀ b, b < 2 → (l / 2 + 128 * b) % 256 &&& 85 = l / 2 &&& 85 := by decide +kernel
theorem o_b : ∀ l, l < 256 → ∀ b, b < 4 → (l / 4 + 64 * b) % 256 &&& 51 = l / 4 &&& 51 := by decide +kernel
theorem o_c : ∀ l, l < 256 → (o2 (o1 l) < 69 ∧ o2 (o1 l) % 16 ≤ 4 ∧ o1 l < 256 ∧ (l / 2 &&& 85) ≤ l) := by decide +kernel
theorem o_d : ∀ l, l < 256 → ∀ b, b < 5 → (o2 (o1 l) + o2 (o1 l) / 16 + 16 * b) &&& 15 = pcF 8 l := by decide +kernel
theorem t1_s (k x : Nat) : t1 (k + 1) x = o1 (x % 256) + 256 * t1 k (x / 256) := by
  unfold t1 o1
  show x - (x / 2 &&& (85 + 256 * rp 85 k)) = _
  rw [and_sp _ _ (by decide)]
  have e1 : x / 2 % 256 &&& 85 = x % 256 / 2 &&& 85 := by
    rw [← o_a (x % 256) (by omega) (x / 256 % 2) (by omega)]
    congr 1
    omega
  have e2 : x / 2 / 256 = x / 256 / 2 := by omega
  have h1 := (o_c (x % 256) (by omega)).2.2.2
  have h2 : (x / 256 / 2 &&& rp 85 k) ≤ x / 256 / 2 := Nat.and_le_left
  rw [e1, e2]
  omega
theorem t2_s (k l y : Nat) (hl : l < 256) : t2 (k + 1) (l + 256 * y) = o2 l + 256 * t2 k y := by
  unfold t2 o2
  show ((l + 256 * y) &&& (51 + 256 * rp 51 k)) + ((l + 256 * y) / 4 &&& (51 + 256 * rp 51 k)) = _
  rw [and_sp _ _ (by decide), and_sp _ _ (by decide)]
  have e1 : (l + 256 * y) / 4 % 256 &&& 51 = l / 4 &&& 51 := by
    rw [← o_b l hl (y % 4) (by omega)]
    congr 1
    omega
  have e2 : (l + 256 * y) / 4 / 256 = y / 4 := by omega
  have e3 : (l + 256 * y) % 256 = l := by omega
  have e4 : (l + 256 * y) / 256 = y := by omega
  rw [e1, e2, e3, e4]
  omega
def pcs : Nat → Nat → Nat
  | 0, _ => 0
  | k + 1, x => pcF 8 (x % 256) + 256 * pcs k (x / 256)
theorem t_all : ∀ k x, t3 k (t2 k (t1 k x)) = pcs k x ∧ t2 k (t1 k x) % 16 ≤ 4 := by
  intro k
  induction k with
  | zero => intro x; simp [t3, t2, rp, pcs]
  | succ k ih =>
    intro x
    obtain ⟨h1, h2⟩ := ih (x / 256)
    obtain ⟨c1, c2, c3, -⟩ := o_c (x % 256) (by omega)
    rw [t1_s, t2_s _ _ _ c3]
    generalize hy : t2 k (t1 k (x / 256)) = y at h1 h2 ⊢
    generalize hl : o2 (o1 (x % 256)) = l at c1 c2 ⊢
    refine ⟨?_, by omega⟩
    unfold t3
    show ((l + 256 * y) + (l + 256 * y) / 16 &&& (15 + 256 * rp 15 k)) = _
    rw [and_sp _ _ (by decide)]
    have e1 : ((l + 256 * y) + (l + 256 * y) / 16) % 256 = l + l / 16 + 16 * (y % 16) := by omega
    have e2 : ((l + 256 * y) + (l + 256 * y) / 16) / 256 = y + y / 16 := by omega
    have h3 := o_d (x % 256) (by omega) (y % 16) (by omega)
    rw [hl] at h3
    rw [e1, e2, h3]
    have h4 : (y + y / 16 &&& rp 15 k) = pcs k (x / 256) := h1
    rw [h4]
    rfl
theorem fo_add (a0 a1 a2 a3 a4 a5 a6 a7 b0 b1 b2 b3 b4 b5 b6 b7 : Nat) : (a0 + 256 * (a1 + 256 * (a2 + 256 * (a3 + 256 * (a4 + 256 * (a5 + 256 * (a6 + 256 * (a7)))))))) + (b0 + 256 * (b1 + 256 * (b2 + 256 * (b3 + 256 * (b4 + 256 * (b5 + 256 * (b6 + 256 * (b7)))))))) = (a0 + b0) + 256 * ((a1 + b1) + 256 * ((a2 + b2) + 256 * ((a3 + b3) + 256 * ((a4 + b4) + 256 * ((a5 + b5) + 256 * ((a6 + b6) + 256 * ((a7 + b7)))))))) := by omega
theorem fo_d1 (a R : Nat) (h : a < 256) : (a + 256 * R) / 256 = R := by omega
theorem fo_d2 (a b R : Nat) (h : a < 256) (h1 : b < 256) : (a + 256 * (b + 256 * R)) / 65536 = R := by omega
theorem fo_d4 (a b c d R : Nat) (h : a < 256) (h1 : b < 256) (h2 : c < 256) (h3 : d < 256) : (a + 256 * (b + 256 * (c + 256 * (d + 256 * R)))) / 4294967296 = R := by omega
theorem fo_lt (a0 a1 a2 a3 a4 a5 a6 a7 : Nat) (h0 : a0 ≤ 64) (h1 : a1 ≤ 64) (h2 : a2 ≤ 64) (h3 : a3 ≤ 64) (h4 : a4 ≤ 64) (h5 : a5 ≤ 64) (h6 : a6 ≤ 64) (h7 : a7 ≤ 64) : a0 + 256 * (a1 + 256 * (a2 + 256 * (a3 + 256 * (a4 + 256 * (a5 + 256 * (a6 + 256 * (a7))))))) < 2 ^ 63 := by omega
theorem fo_m (a R : Nat) (h : a < 128) : (a + 256 * R) % 128 = a := by omega
theorem fw1 (c0 c1 c2 c3 c4 c5 c6 c7 : Nat) (h0 : c0 < 256) : (c0 + 256 * (c1 + 256 * (c2 + 256 * (c3 + 256 * (c4 + 256 * (c5 + 256 * (c6 + 256 * (c7)))))))) + (c0 + 256 * (c1 + 256 * (c2 + 256 * (c3 + 256 * (c4 + 256 * (c5 + 256 * (c6 + 256 * (c7)))))))) / 256 = (c0 + c1) + 256 * ((c1 + c2) + 256 * ((c2 + c3) + 256 * ((c3 + c4) + 256 * ((c4 + c5) + 256 * ((c5 + c6) + 256 * ((c6 + c7) + 256 * ((c7 + 0)))))))) := by
  rw [fo_d1 _ _ h0]
  exact fo_add c0 c1 c2 c3 c4 c5 c6 c7 c1 c2 c3 c4 c5 c6 c7 0
theorem fw2 (c0 c1 c2 c3 c4 c5 c6 c7 : Nat) (h0 : c0 < 256) (h1 : c1 < 256) : (c0 + 256 * (c1 + 256 * (c2 + 256 * (c3 + 256 * (c4 + 256 * (c5 + 256 * (c6 + 256 * (c7)))))))) + (c0 + 256 * (c1 + 256 * (c2 + 256 * (c3 + 256 * (c4 + 256 * (c5 + 256 * (c6 + 256 * (c7)))))))) / 65536 = (c0 + c2) + 256 * ((c1 + c3) + 256 * ((c2 + c4) + 256 * ((c3 + c5) + 256 * ((c4 + c6) + 256 * ((c5 + c7) + 256 * ((c6 + 0) + 256 * ((c7 + 0)))))))) := by
  rw [fo_d2 _ _ _ h0 h1]
  exact fo_add c0 c1 c2 c3 c4 c5 c6 c7 c2 c3 c4 c5 c6 c7 0 0
theorem fw3 (c0 c1 c2 c3 c4 c5 c6 c7 : Nat) (h0 : c0 < 256) (h1 : c1 < 256) (h2 : c2 < 256) (h3 : c3 < 256) : (c0 + 256 * (c1 + 256 * (c2 + 256 * (c3 + 256 * (c4 + 256 * (c5 + 256 * (c6 + 256 * (c7)))))))) + (c0 + 256 * (c1 + 256 * (c2 + 256 * (c3 + 256 * (c4 + 256 * (c5 + 256 * (c6 + 256 * (c7)))))))) / 4294967296 = (c0 + c4) + 256 * ((c1 + c5) + 256 * ((c2 + c6) + 256 * ((c3 + c7) + 256 * ((c4 + 0) + 256 * ((c5 + 0) + 256 * ((c6 + 0) + 256 * ((c7 + 0)))))))) := by
  rw [fo_d4 _ _ _ _ _ h0 h1 h2 h3]
  exact fo_add c0 c1 c2 c3 c4 c5 c6 c7 c4 c5 c6 c7 0 0 0 0
theorem fold8 (c0 c1 c2 c3 c4 c5 c6 c7 : Nat) (h0 : c0 ≤ 8) (h1 : c1 ≤ 8) (h2 : c2 ≤ 8) (h3 : c3 ≤ 8) (h4 : c4 ≤ 8) (h5 : c5 ≤ 8) (h6 : c6 ≤ 8) (h7 : c7 ≤ 8) (w w1 w2 w3 : Nat) (hw : w = c0 + 256 * (c1 + 256 * (c2 + 256 * (c3 + 256 * (c4 + 256 * (c5 + 256 * (c6 + 256 * (c7 + 256 * 0)))))))) (hw1 : w1 = w + w / 256) (hw2 : w2 = w1 + w1 / 65536) (hw3 : w3 = w2 + w2 / 4294967296) : w3 % 128 = c0 + c1 + c2 + c3 + c4 + c5 + c6 + c7 ∧ w1 < 2 ^ 63 ∧ w2 < 2 ^ 63 ∧ w3 < 2 ^ 63 := by
  have a1 := fw1 c0 c1 c2 c3 c4 c5 c6 c7 (by clear hw hw1 hw2 hw3; omega)
  have a2 := fw2 (c0 + c1) (c1 + c2) (c2 + c3) (c3 + c4) (c4 + c5) (c5 + c6) (c6 + c7) (c7 + 0) (by clear hw hw1 hw2 hw3 a1; omega) (by clear hw hw1 hw2 hw3 a1; omega)
  have a3 := fw3 ((c0 + c1) + (c2 + c3)) ((c1 + c2) + (c3 + c4)) ((c2 + c3) + (c4 + c5)) ((c3 + c4) + (c5 + c6)) ((c4 + c5) + (c6 + c7)) ((c5 + c6) + (c7 + 0)) ((c6 + c7) + 0) ((c7 + 0) + 0) (by clear hw hw1 hw2 hw3 a1 a2; omega) (by clear hw hw1 hw2 hw3 a1 a2; omega) (by clear hw hw1 hw2 hw3 a1 a2; omega) (by clear hw hw1 hw2 hw3 a1 a2; omega)
  have g1 := fo_lt (c0 + c1) (c1 + c2) (c2 + c3) (c3 + c4) (c4 + c5) (c5 + c6) (c6 + c7) (c7 + 0) (by clear hw hw1 hw2 hw3 a1 a2 a3; omega) (by clear hw hw1 hw2 hw3 a1 a2 a3; omega) (by clear hw hw1 hw2 hw3 a1 a2 a3; omega) (by clear hw hw1 hw2 hw3 a1 a2 a3; omega) (by clear hw hw1 hw2 hw3 a1 a2 a3; omega) (by clear hw hw1 hw2 hw3 a1 a2 a3; omega) (by clear hw hw1 hw2 hw3 a1 a2 a3; omega) (by clear hw hw1 hw2 hw3 a1 a2 a3; omega)
  have g2 := fo_lt ((c0 + c1) + (c2 + c3)) ((c1 + c2) + (c3 + c4)) ((c2 + c3) + (c4 + c5)) ((c3 + c4) + (c5 + c6)) ((c4 + c5) + (c6 + c7)) ((c5 + c6) + (c7 + 0)) ((c6 + c7) + 0) ((c7 + 0) + 0) (by clear hw hw1 hw2 hw3 a1 a2 a3 g1; omega) (by clear hw hw1 hw2 hw3 a1 a2 a3 g1; omega) (by clear hw hw1 hw2 hw3 a1 a2 a3 g1; omega) (by clear hw hw1 hw2 hw3 a1 a2 a3 g1; omega) (by clear hw hw1 hw2 hw3 a1 a2 a3 g1; omega) (by clear hw hw1 hw2 hw3 a1 a2 a3 g1; omega) (by clear hw hw1 hw2 hw3 a1 a2 a3 g1; omega) (by clear hw hw1 hw2 hw3 a1 a2 a3 g1; omega)
  have g3 := fo_lt (((c0 + c1) + (c2 + c3)) + ((c4 + c5) + (c6 + c7))) (((c1 + c2) + (c3 + c4)) + ((c5 + c6) + (c7 + 0))) (((c2 + c3) + (c4 + c5)) + ((c6 + c7) + 0)) (((c3 + c4) + (c5 + c6)) + ((c7 + 0) + 0)) (((c4 + c5) + (c6 + c7)) + 0) (((c5 + c6) + (c7 + 0)) + 0) (((c6 + c7) + 0) + 0) (((c7 + 0) + 0) + 0) (by clear hw hw1 hw2 hw3 a1 a2 a3 g1 g2; omega) (by clear hw hw1 hw2 hw3 a1 a2 a3 g1 g2; omega) (by clear hw hw1 hw2 hw3 a1 a2 a3 g1 g2; omega) (by clear hw hw1 hw2 hw3 a1 a2 a3 g1 g2; omega) (by clear hw hw1 hw2 hw3 a1 a2 a3 g1 g2; omega) (by clear hw hw1 hw2 hw3 a1 a2 a3 g1 g2; omega) (by clear hw hw1 hw2 hw3 a1 a2 a3 g1 g2; omega) (by clear hw hw1 hw2 hw3 a1 a2 a3 g1 g2; omega)
  have g4 := fo_m (((c0 + c1) + (c2 + c3)) + ((c4 + c5) + (c6 + c7))) ((((c1 + c2) + (c3 + c4)) + ((c5 + c6) + (c7 + 0))) + 256 * ((((c2 + c3) + (c4 + c5)) + ((c6 + c7) + 0)) + 256 * ((((c3 + c4) + (c5 + c6)) + ((c7 + 0) + 0)) + 256 * ((((c4 + c5) + (c6 + c7)) + 0) + 256 * ((((c5 + c6) + (c7 + 0)) + 0) + 256 * ((((c6 + c7) + 0) + 0) + 256 * ((((c7 + 0) + 0) + 0)))))))) (by clear hw hw1 hw2 hw3 a1 a2 a3 g1 g2 g3; omega)
  have hw' : w = c0 + 256 * (c1 + 256 * (c2 + 256 * (c3 + 256 * (c4 + 256 * (c5 + 256 * (c6 + 256 * (c7))))))) := hw
  subst hw'
  rw [a1] at hw1
  subst hw1
  rw [a2] at hw2
  subst hw2
  rw [a3] at hw3
  subst hw3
  exact ⟨g4.trans (by clear hw a1 a2 a3 g1 g2 g3 g4; omega), g1, g2, g3⟩
theorem pcF_64 (x : Nat) : pcF 64 x = pcF 8 (x % 256) + pcF 8 (x / 256 % 256) + pcF 8 (x / 256 / 256 % 256) + pcF 8 (x / 256 / 256 / 256 % 256) + pcF 8 (x / 256 / 256 / 256 / 256 % 256) + pcF 8 (x / 256 / 256 / 256 / 256 / 256 % 256) + pcF 8 (x / 256 / 256 / 256 / 256 / 256 / 256 % 256) + pcF 8 (x / 256 / 256 / 256 / 256 / 256 / 256 / 256 % 256) := by
  have s : ∀ k y, pcF (8 + k) y = pcF 8 (y % 256) + pcF k (y / 256) := fun k y => by rw [pcF_add, show y % 256 = y % 2 ^ 8 from rfl, pcF_mod]
  rw [show (64 : Nat) = 8 + (8 + (8 + (8 + (8 + (8 + (8 + (8 + 0))))))) from rfl]
  rw [s, s, s, s, s, s, s, s]
  simp only [show ∀ y, pcF 0 y = 0 from fun _ => rfl, Nat.add_zero, Nat.add_assoc]
theorem pcs_8 (x : Nat) : pcs 8 x = pcF 8 (x % 256) + 256 * (pcF 8 (x / 256 % 256) + 256 * (pcF 8 (x / 256 / 256 % 256) + 256 * (pcF 8 (x / 256 / 256 / 256 % 256) + 256 * (pcF 8 (x / 256 / 256 / 256 / 256 % 256) + 256 * (pcF 8 (x / 256 / 256 / 256 / 256 / 256 % 256) + 256 * (pcF 8 (x / 256 / 256 / 256 / 256 / 256 / 256 % 256) + 256 * (pcF 8 (x / 256 / 256 / 256 / 256 / 256 / 256 / 256 % 256) + 256 * 0))))))) := rfl
/-! in longs -/
def us (x : Int64) (k : Int32) : Int64 := (x.toUInt64 >>> (k.toInt64.toUInt64 &&& Int64.toUInt64 63)).toInt64
def bl1 (x : Int64) : Int64 := x - (us x 1 &&& 6148914691236517205)
def bl2 (x : Int64) : Int64 := (x &&& 3689348814741910323) + (us x 2 &&& 3689348814741910323)
def bl3 (x : Int64) : Int64 := (x + us x 4) &&& 1085102592571150095
def bl4 (k : Int32) (x : Int64) : Int64 := x + us x k
theorem bc_def (u : Mem) (x : Int64) : F_J13_bitCount_95d88 u x = some ((bl4 32 (bl4 16 (bl4 8 (bl3 (bl2 (bl1 x)))))).toInt32 &&& 127, u) := rfl
theorem us_N {n k : Nat} (hn : n < 2 ^ 64) (hk : k < 64) : us (lN n) (nI k) = lN (n / 2 ^ k) := wb_shr hn hk
theorem rp_lt : ∀ b k, b < 256 → rp b k < 256 ^ k := by
  intro b k hb
  induction k with
  | zero => simp [rp]
  | succ k ih => unfold rp; rw [Nat.pow_succ]; omega
theorem bc_C (u : Mem) {n : Nat} (hn : n < 2 ^ 64) : F_J13_bitCount_95d88 u (lN n) = some (nI (pcF 64 n), u) := by
  rw [bc_def]
  have m1 : (6148914691236517205 : Int64) = lN (rp 85 8) := by decide +kernel
  have m2 : (3689348814741910323 : Int64) = lN (rp 51 8) := by decide +kernel
  have m3 : (1085102592571150095 : Int64) = lN (rp 15 8) := by decide +kernel
  have r1 : rp 85 8 < 2 ^ 64 := by decide +kernel
  have r2 : rp 51 8 < 2 ^ 62 := by decide +kernel
  have r3 : rp 15 8 < 2 ^ 62 := by decide +kernel
  have e1 : bl1 (lN n) = lN (t1 8 n) := by
    unfold bl1 t1
    rw [show (1 : Int32) = nI 1 from rfl, us_N hn (by omega), m1, wb_and (by omega) r1, lN_sub (Nat.le_trans Nat.and_le_left (by omega))]
  have l1 : t1 8 n < 2 ^ 64 := by unfold t1; omega
  have e2 : bl2 (lN (t1 8 n)) = lN (t2 8 (t1 8 n)) := by
    unfold bl2 t2
    rw [show (2 : Int32) = nI 2 from rfl, us_N l1 (by omega), m2, wb_and l1 (by omega), wb_and (by omega) (by omega), lN_add]
  have l2 : t2 8 (t1 8 n) < 2 ^ 63 := by
    unfold t2
    have a := @Nat.and_le_right (t1 8 n) (rp 51 8)
    have b := @Nat.and_le_right (t1 8 n / 4) (rp 51 8)
    omega
  have e3 : bl3 (lN (t2 8 (t1 8 n))) = lN (pcs 8 n) := by
    unfold bl3
    rw [show (4 : Int32) = nI 4 from rfl, us_N (by omega) (by omega), m3, lN_add, wb_and (by omega) (by omega)]
    exact congrArg lN (t_all 8 n).1
  have b8 := fun y => pcF_le 8 y
  obtain ⟨f1, f2, f3, f4⟩ := fold8 _ _ _ _ _ _ _ _ (b8 (n % 256)) (b8 (n / 256 % 256)) (b8 (n / 256 / 256 % 256)) (b8 (n / 256 / 256 / 256 % 256)) (b8 (n / 256 / 256 / 256 / 256 % 256)) (b8 (n / 256 / 256 / 256 / 256 / 256 % 256)) (b8 (n / 256 / 256 / 256 / 256 / 256 / 256 % 256)) (b8 (n / 256 / 256 / 256 / 256 / 256 / 256 / 256 % 256)) (pcs 8 n) _ _ _ (pcs_8 n) rfl rfl rfl
  rw [e1, e2, e3]
  unfold bl4
  have l3 : pcs 8 n < 2 ^ 63 := by omega
  rw [show (8 : Int32) = nI 8 from rfl, us_N (by omega) (by omega), lN_add]
  rw [show (16 : Int32) = nI 16 from rfl, us_N (by omega) (by omega), lN_add]
  rw [show (32 : Int32) = nI 32 from rfl, us_N (by omega) (by omega), lN_add]
  rw [lN_i]
  have e5 := pk_and (nI (pcs 8 n + pcs 8 n / 2 ^ 8 + (pcs 8 n + pcs 8 n / 2 ^ 8) / 2 ^ 16 + (pcs 8 n + pcs 8 n / 2 ^ 8 + (pcs 8 n + pcs 8 n / 2 ^ 8) / 2 ^ 16) / 2 ^ 32)) (m := 127) 7 (by decide)
  rw [e5]
  have e6 : ∀ z : Nat, (nI z).toBitVec.toNat % 2 ^ 7 = z % 128 := by
    intro z
    show (BitVec.ofNat 32 z).toNat % 128 = z % 128
    rw [BitVec.toNat_ofNat]
    omega
  rw [e6, pcF_64]
  exact congrArg (fun z => some (nI z, u)) f1
theorem lg_0 {n : Nat} (hn : n < 2 ^ 64) : lg_cmp (lN n) 0 = 0 ↔ n = 0 := by
  have e : lN n = 0 ↔ n = 0 := by
    constructor
    · intro h
      have h2 := congrArg (fun z : Int64 => z.toBitVec.toNat) h
      have h3 : (lN n).toBitVec.toNat = n := wb_tn hn
      rw [h3] at h2
      exact h2
    · intro h; rw [h]; rfl
  unfold lg_cmp
  by_cases g : lN n > 0
  · rw [if_pos g]
    constructor
    · intro h; exact absurd h (by decide)
    · intro h; rw [h] at g; exact absurd g (by decide)
  · rw [if_neg g]
    by_cases h : lN n = 0
    · rw [if_pos h]; exact ⟨fun _ => e.mp h, fun _ => rfl⟩
    · rw [if_neg h]; exact ⟨fun z => absurd z (by decide), fun z => absurd (e.mpr z) h⟩
theorem many_4 (v : Mem) : ∀ (m c n : Nat), n < 2 ^ 64 → pcF 64 n < m → F_X7_many_4 m v (nI c) (lN n) = some (nI (c + pcF 64 n), v) := by
  intro m
  induction m with
  | zero => intro c n h1 h2; exact absurd h2 (by omega)
  | succ m ih =>
    intro c n h1 h2
    unfold F_X7_many_4
    by_cases h0 : n = 0
    · rw [if_pos ((lg_0 h1).mpr h0), h0, pcF_0]; rfl
    · rw [if_neg (fun z => h0 ((lg_0 h1).mp z))]
      have e : lN n &&& (lN n - 1) = lN (n &&& (n - 1)) := by
        rw [show (1 : Int64) = lN 1 from rfl, lN_sub (by omega), wb_and h1 (by omega)]
      have h3 := and_low (Nat.pos_of_ne_zero h0) 64 h1
      rw [e, nI_1, ih (c + 1) (n &&& (n - 1)) (Nat.lt_trans (and_sub1_lt (Nat.pos_of_ne_zero h0)) h1) (by omega)]
      rw [show c + 1 + pcF 64 (n &&& (n - 1)) = c + pcF 64 n by omega]
theorem many_M (v : Mem) {n : Nat} (hn : n < 2 ^ 64) : F_X7_many v (lN n) = some (nI (pcF 64 n), v) := by
  unfold F_X7_many
  have := many_4 v fu 0 n hn (by have := pcF_le 64 n; unfold fu; omega)
  rw [Nat.zero_add] at this
  exact this
theorem ones_4 (v : Mem) : ∀ (m c n : Nat), n < 2 ^ 31 → pcF 32 n < m → F_X7_ones_4 m v (nI c) (nI n) = some (nI (c + pcF 32 n), v) := by
  intro m
  induction m with
  | zero => intro c n h1 h2; exact absurd h2 (by omega)
  | succ m ih =>
    intro c n h1 h2
    unfold F_X7_ones_4
    by_cases h0 : n = 0
    · rw [if_pos (by rw [h0]; rfl), h0, pcF_0]; rfl
    · rw [if_neg (nI_ne0 (Nat.pos_of_ne_zero h0) h1)]
      have e : nI n &&& (nI n - 1) = nI (n &&& (n - 1)) := by
        rw [show (1 : Int32) = nI 1 from rfl, pk_sub (by omega), nx_and]
      have h3 := and_low (Nat.pos_of_ne_zero h0) 32 (by omega)
      rw [e, nI_1, ih (c + 1) (n &&& (n - 1)) (Nat.lt_trans (and_sub1_lt (Nat.pos_of_ne_zero h0)) h1) (by omega)]
      rw [show c + 1 + pcF 32 (n &&& (n - 1)) = c + pcF 32 n by omega]
theorem ones_M (v : Mem) {n : Nat} (hn : n < 2 ^ 31) : F_X7_ones v (nI n) = some (nI (pcF 32 n), v) := by
  unfold F_X7_ones
  have := ones_4 v fu 0 n hn (by have := pcF_le 32 n; unfold fu; omega)
  rw [Nat.zero_add] at this
  exact this
/-! ints below 4096 -/
def ui (x : Int32) (k : Int32) : Int32 := (x.toUInt32 >>> (k.toUInt32 &&& Int32.toUInt32 31)).toInt32
def bj1 (x : Int32) : Int32 := x - (ui x 1 &&& 1431655765)
def bj2 (x : Int32) : Int32 := (x &&& 858993459) + (ui x 2 &&& 858993459)
def bj3 (x : Int32) : Int32 := (x + ui x 4) &&& 252645135
def bj4 (k : Int32) (x : Int32) : Int32 := x + ui x k
theorem bj_def (u : Mem) (x : Int32) : F_J6_bitCount_0f7a4 u x = some (bj4 16 (bj4 8 (bj3 (bj2 (bj1 x)))) &&& 63, u) := rfl
theorem bj_64 : ∀ a, a < 64 → ∀ b, b < 64 → bj4 16 (bj4 8 (bj3 (bj2 (bj1 (nI (64 * a + b)))))) &&& 63 = nI (pcF 32 (64 * a + b)) := by decide +kernel
theorem bj_all (n : Nat) (h : n < 4096) : bj4 16 (bj4 8 (bj3 (bj2 (bj1 (nI n))))) &&& 63 = nI (pcF 32 n) := by
  have := bj_64 (n / 64) (by omega) (n % 64) (by omega)
  rw [show 64 * (n / 64) + n % 64 = n by omega] at this
  exact this
theorem bj_C (u : Mem) {n : Nat} (hn : n < 4096) : F_J6_bitCount_0f7a4 u (nI n) = some (nI (pcF 32 n), u) := by rw [bj_def, bj_all n hn]
