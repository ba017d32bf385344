/-! PURE: a text -/
theorem b6_bit : ∀ w, w < 40 → ∀ i, i < 64 → b6 ((1 : Int64) <<< ((nI w).toInt64 &&& 63)) i = decide (i = w) := by decide +kernel
theorem b6_1 : ∀ i, i < 64 → b6 1 i = decide (i = 0) := by decide +kernel
theorem b6_0 : ∀ i, i < 64 → b6 0 i = false := by decide +kernel
theorem mk_c {x : Int64} {w : Nat} (hw : w < 40) : lg_cmp (x &&& ((1 : Int64) <<< ((nI w).toInt64 &&& 63))) 0 = 0 ↔ b6 x w = false := by
  rw [lgc_eq]
  constructor
  · intro h
    have := congrArg (fun z => b6 z w) h
    simp only [b6_and, b6_bit w hw w (by omega), b6_0 w (by omega), decide_true, Bool.and_true] at this
    exact this
  · intro h
    apply b6_ext
    intro i hi
    rw [b6_and, b6_bit w hw i hi, b6_0 i hi]
    by_cases e : i = w
    · rw [e, h]; rfl
    · rw [decide_eq_false e, Bool.and_false]
theorem sr_b6 {x : Int64} {w : Nat} (hw : w < 40) : b6 (x >>> ((nI w).toInt64 &&& 63)) 0 = b6 x w := by
  unfold b6
  rw [wb_c w (by omega), Int64.toBitVec_shiftRight]
  show (x.toBitVec.sshiftRight ((lN w).toBitVec.smod 64).toNat).getLsbD 0 = _
  rw [wb_tb, wb_sm w (by omega), BitVec.toNat_ofNat, Nat.mod_eq_of_lt (show w < 2 ^ 64 by omega), BitVec.getLsbD_sshiftRight]
  simp [show w < 64 by omega]
theorem mk_m {x : Int64} {w : Nat} (hw : w < 40) : lg_cmp ((x >>> ((nI w).toInt64 &&& 63)) &&& 1) 0 = 0 ↔ b6 x w = false := by
  rw [lgc_eq]
  constructor
  · intro h
    have := congrArg (fun z => b6 z 0) h
    simp only [b6_and, b6_1 0 (by omega), b6_0 0 (by omega), decide_true, Bool.and_true, sr_b6 hw] at this
    exact this
  · intro h
    apply b6_ext
    intro i hi
    rw [b6_and, b6_1 i hi, b6_0 i hi]
    by_cases e : i = 0
    · rw [e, sr_b6 hw, h]; rfl
    · rw [decide_eq_false e, Bool.and_false]
/-! what a text may change -/
def FC (u u2 : Mem) : Prop := ∀ c, c ≠ 4 → c ≠ 17 → (c < 28 ∨ 40 ≤ c) → u2.1 c = u.1 c ∧ u2.2 c = u.2 c
def FM (v v2 : Mem) : Prop := (∀ c, c ≠ 0 → c ≠ 1 → v2.1 c = v.1 c) ∧ (∀ c, c ≠ 0 → c ≠ 2 → v2.2 c = v.2 c) ∧ v2.1 0 24 = v.1 0 24
theorem FC.rf (u : Mem) : FC u u := fun _ _ _ _ => ⟨rfl, rfl⟩
theorem FM.rf (v : Mem) : FM v v := ⟨fun _ _ _ => rfl, fun _ _ _ => rfl, rfl⟩
theorem FC.tr {u u2 u3 : Mem} (h : FC u u2) (g : FC u2 u3) : FC u u3 := fun c a b d => ⟨(g c a b d).1.trans (h c a b d).1, (g c a b d).2.trans (h c a b d).2⟩
theorem FM.tr {u u2 u3 : Mem} (h : FM u u2) (g : FM u2 u3) : FM u u3 := ⟨fun c a b => (g.1 c a b).trans (h.1 c a b), fun c a b => (g.2.1 c a b).trans (h.2.1 c a b), g.2.2.trans h.2.2⟩
theorem WS.fc {u u2 : Mem} (h : WS u u2) : FC u u2 := fun c _ b _ => ⟨h.2 c b, by rw [h.1]⟩
theorem WA.fm {v v2 : Mem} (h : WA v v2) : FM v v2 := ⟨fun c a _ => h.1 c a, fun c a _ => h.2.1 c a, h.2.2 24 (by decide) (by decide) (by decide) (by decide)⟩
theorem FC.si {u : Mem} {n j : Nat} {x : Int32} (hn : n < 12) : FC u (sI u (28 + n) j x) := fun c _ _ d => ⟨funext fun j => sI_i (by omega), rfl⟩
theorem FC.sl {u : Mem} {n j : Nat} {x : Int64} (hn : n < 12) : FC u (sL u (28 + n) j x) := fun c _ _ d => ⟨rfl, funext fun j => sL_i (by omega)⟩
theorem FC.s4 {u : Mem} {j : Nat} {x : Int32} : FC u (sI u 4 j x) := fun c a _ _ => ⟨funext fun j => sI_i a, rfl⟩
theorem FM.good {v : Mem} {x : Int32} : FM v (sI v 0 15 x) := ⟨fun c a _ => funext fun j => sI_i a, fun _ _ _ => rfl, sI_k (by decide)⟩
theorem FM.s1 {v : Mem} {j : Nat} {x : Int32} : FM v (sI v 1 j x) := ⟨fun c _ a => funext fun j => sI_i a, fun _ _ _ => rfl, sI_i (by decide)⟩
theorem nwM_1 {v : Mem} {n c : Nat} {k w y s : Int32} {mk : Int64} (h : c ≠ 1) : (nwM v n k mk w y s).1 c = v.1 c := by
  unfold nwM
  exact funext fun j => by rw [sI_i h, sI_i h, sI_i h, sI_i h, sI_i h, sL_1]
theorem nwM_2 {v : Mem} {n c : Nat} {k w y s : Int32} {mk : Int64} (h : c ≠ 2) : (nwM v n k mk w y s).2 c = v.2 c := by
  unfold nwM
  simp only [sI_2]
  exact funext fun j => sL_i h
theorem FM.nw {v : Mem} {n : Nat} {k w y s : Int32} {mk : Int64} : FM v (nwM v n k mk w y s) := ⟨fun c _ a => nwM_1 a, fun c _ a => nwM_2 a, by rw [nwM_1 (by decide)]⟩
def Rest (u v : Mem) : Prop := RKp u v ∧ (∀ s, s < 4 → RSh u v s) ∧ (∀ k, k < 7 → u.1 27 k = v.1 3 k) ∧ ∃ n, RAr u v 3 15 17 n
theorem Rest.fr {u v u2 v2 : Mem} (h : Rest u v) (hC : FC u u2) (hM : FM v v2) : Rest u2 v2 := by
  obtain ⟨hK, hS, hF, n3, hB⟩ := h
  have c1 : ∀ c, c ≠ 4 → c ≠ 17 → (c < 28 ∨ 40 ≤ c) → u2.1 c = u.1 c := fun c a b d => (hC c a b d).1
  have c2 : ∀ c, c ≠ 4 → c ≠ 17 → (c < 28 ∨ 40 ≤ c) → u2.2 c = u.2 c := fun c a b d => (hC c a b d).2
  refine ⟨⟨by rw [c1 0 (by decide) (by decide) (by decide), hM.2.2]; exact hK.1, ?_⟩, fun s hs => (hS s hs).congr (c1 _ (by omega) (by omega) (by omega)) (c2 _ (by omega) (by omega) (by omega)) (by rw [hM.1 10 (by decide) (by decide)]) (by rw [hM.1 11 (by decide) (by decide)]) (fun k _ => by rw [hM.2.1 12 (by decide) (by decide)]), fun k hk => by rw [c1 27 (by decide) (by decide) (by decide), hM.1 3 (by decide) (by decide)]; exact hF k hk, n3, hB.congr (by rw [c1 6 (by decide) (by decide) (by decide)]) (by rw [c1 6 (by decide) (by decide) (by decide)]) (hM.1 15 (by decide) (by decide)) (fun p _ => by rw [hM.2.1 17 (by decide) (by decide)]) (fun p hp => prC_eq (c1 _ (by omega) (by omega) (by omega)) (c2 _ (by omega) (by omega) (by omega)))⟩
  rw [hM.2.2]
  rcases hK.2 with z | ⟨z, n2, z2⟩
  · exact Or.inl z
  · refine Or.inr ⟨z, n2, z2.congr (by rw [c1 5 (by decide) (by decide) (by decide)]) (by rw [c1 5 (by decide) (by decide) (by decide)]) (hM.1 14 (by decide) (by decide)) (fun p _ => by rw [hM.2.1 16 (by decide) (by decide)]) (fun p hp => prC_eq (c1 _ (by omega) (by omega) (by omega)) (c2 _ (by omega) (by omega) (by omega)))⟩
theorem RAr.w {u v u2 v2 : Mem} {n : Nat} (h : RAr u v 1 1 2 n) (hC : WS u u2) (hM : WA v v2) : RAr u2 v2 1 1 2 n := by
  have hn := h.1
  exact h.congr (by rw [hC.2 (1 + 3) (by decide)]) (by rw [hC.2 (1 + 3) (by decide)]) (hM.1 1 (by decide)) (fun p _ => by rw [hM.2.1 2 (by decide)]) (fun p hp => prC_eq (hC.2 _ (by omega)) (by rw [hC.1]))
def PRn (u v : Mem) (n : Nat) (kd : Int32) (mk : Int64) (wd yr sn : Int32) : Prop := n < 12 ∧ u.1 4 1 = nI (n + 1) ∧ u.1 4 2 = v.1 1 1 ∧ v.1 1 0 = nI n ∧ (∃ s, s ≤ 999 ∧ v.1 1 1 = nI s) ∧ (∀ p, p < n → prC u (28 + p) = vM v 1 2 p ∧ okP (vM v 1 2 p)) ∧ prC u (28 + n) = (kd, wd, yr, sn, mk)
theorem PRn.w {u v u2 v2 : Mem} {n : Nat} {kd wd yr sn : Int32} {mk : Int64} (h : PRn u v n kd mk wd yr sn) (hC : WS u u2) (hM : WA v v2) : PRn u2 v2 n kd mk wd yr sn := by
  obtain ⟨a, b, c, d, e, f, g⟩ := h
  have p1 : ∀ p, p < 12 → prC u2 (28 + p) = prC u (28 + p) := fun p hp => prC_eq (hC.2 _ (by omega)) (by rw [hC.1])
  have p2 : ∀ p, vM v2 1 2 p = vM v 1 2 p := fun p => by unfold vM; rw [hM.1 1 (by decide), hM.2.1 2 (by decide)]
  refine ⟨a, by rw [hC.2 4 (by decide)]; exact b, by rw [hC.2 4 (by decide), hM.1 1 (by decide)]; exact c, by rw [hM.1 1 (by decide)]; exact d, by rw [hM.1 1 (by decide)]; exact e, fun p hp => by rw [p1 p (by omega), p2]; exact f p hp, by rw [p1 n a]; exact g⟩
theorem PRn.upd {u v u2 : Mem} {n : Nat} {kd wd yr sn kd2 wd2 yr2 sn2 : Int32} {mk mk2 : Int64} (h : PRn u v n kd mk wd yr sn) (h4 : u2.1 4 = u.1 4) (hp : ∀ p, p < n → prC u2 (28 + p) = prC u (28 + p)) (hn : prC u2 (28 + n) = (kd2, wd2, yr2, sn2, mk2)) : PRn u2 v n kd2 mk2 wd2 yr2 sn2 := by
  obtain ⟨a, b, c, d, e, f, g⟩ := h
  exact ⟨a, by rw [h4]; exact b, by rw [h4]; exact c, d, e, fun p q => by rw [hp p q]; exact f p q, hn⟩
theorem PRn.s1 {u v : Mem} {n : Nat} {kd wd yr sn x : Int32} {mk : Int64} (h : PRn u v n kd mk wd yr sn) : PRn (sI u (28 + n) 1 x) v n kd mk x yr sn := h.upd (funext fun j => sI_i (by omega)) (fun p hp => prC_ne (by omega)) (by rw [prC_1, h.2.2.2.2.2.2])
theorem PRn.s2 {u v : Mem} {n : Nat} {kd wd yr sn x : Int32} {mk : Int64} (h : PRn u v n kd mk wd yr sn) : PRn (sI u (28 + n) 2 x) v n kd mk wd x sn := h.upd (funext fun j => sI_i (by omega)) (fun p hp => prC_ne (by omega)) (by rw [prC_2, h.2.2.2.2.2.2])
theorem PRn.s3 {u v : Mem} {n : Nat} {kd wd yr sn x : Int32} {mk : Int64} (h : PRn u v n kd mk wd yr sn) : PRn (sI u (28 + n) 3 x) v n kd mk wd yr x := h.upd (funext fun j => sI_i (by omega)) (fun p hp => prC_ne (by omega)) (by rw [prC_3, h.2.2.2.2.2.2])
theorem PRn.s4 {u v : Mem} {n : Nat} {kd wd yr sn : Int32} {mk x : Int64} (h : PRn u v n kd mk wd yr sn) : PRn (sL u (28 + n) 4 x) v n kd x wd yr sn := h.upd rfl (fun p hp => prC_neL (by omega)) (by rw [prC_L, h.2.2.2.2.2.2])
theorem PRn.add {u v : Mem} {n : Nat} {kd wd yr sn : Int32} {mk : Int64} (h : PRn u v n kd mk wd yr sn) (ok : okP (kd, wd, yr, sn, mk)) : RAr u (nwM v n kd mk wd yr sn) 1 1 2 (n + 1) := by
  obtain ⟨a, b, c, d, e, f, g⟩ := h
  have m1 : (nwM v n kd mk wd yr sn).1 1 1 = v.1 1 1 := by
    unfold nwM
    rw [sI_k (by decide), sI_k (by omega), sI_k (by omega), sI_k (by omega), sI_k (by omega), sL_1]
  have mm : mk &&& 1099511627775 = mk := ok.2.2.2.2
  refine ⟨by omega, b, by unfold nwM; rw [sI_eq], by rw [m1]; exact c, by rw [m1]; exact e, fun p hp => ?_⟩
  rw [show 12 * 1 + 16 + p = 28 + p by omega, vM_nw, mm]
  by_cases z : p = n
  · rw [if_pos z, z]; exact ⟨g, ok⟩
  · rw [if_neg z]; exact f p (by omega)
def OUT (t : Nat → Nat) (k e0 : Nat) (r : Bool) (u v u' v' : Mem) : Prop := FC u u' ∧ FM v v' ∧ ∃ e', e0 ≤ e' ∧ TS t k e' u' v' ∧ ((r = true ∧ v'.1 0 15 = 1 ∧ (∃ n, RAr u' v' 1 1 2 n) ∧ (u'.1 17 3 ≠ 0 → e0 < e')) ∨ (v'.1 0 15 = 0 ∧ (r = false ∨ u'.1 17 3 = 2)))
/-! the reference's print from behind -/
theorem w182 {v : Mem} {n : Nat} {kd wd yr : Int32} {mk : Int64} (hg : v.1 0 15 = 1) (h0 : v.1 1 0 = nI n) (hn : n < 12) (z : Bool) : F_X7_wantPrint_182 v kd mk wd yr (bi z) = some (nwM v n kd mk wd yr (bi z)) := by
  unfold F_X7_wantPrint_182 F_X7_wantPrint_206 F_X7_wantPrint_209
  rw [hg, ite10]
  cases z
  · rw [if_pos (show bi false = 0 from rfl), add_M h0 hn, bdV_s]; rfl
  · rw [if_neg (show ¬ bi true = 0 by decide), add_M h0 hn, bdV_s]; rfl
theorem w170 (v : Mem) (kd : Int32) (mk : Int64) (wd yr : Int32) : F_X7_wantPrint_170 v kd mk wd yr = F_X7_wantPrint_182 v kd mk wd yr (bi false) := rfl
theorem w171 (v : Mem) (kd : Int32) (mk : Int64) (wd yr : Int32) : F_X7_wantPrint_171 v kd mk wd yr 1 = bdV (F_X7_advance v) fun u7 => F_X7_wantPrint_182 u7 kd mk wd yr (bi true) := rfl
def tS (v : Mem) (kd : Int32) (mk : Int64) (wd yr : Int32) : Option Mem := if v.1 0 15 = 0 then F_X7_wantPrint_170 v kd mk wd yr else bdI (F_X7_isWord v 377771) fun r18 u17 => if r18 = 0 then F_X7_wantPrint_170 u17 kd mk wd yr else F_X7_wantPrint_171 u17 kd mk wd yr 1
def tY (v : Mem) (kd : Int32) (mk : Int64) (wd : Int32) : Option Mem := bdI (F_X7_mayWant v 495765 0 2000 0) fun r14 u13 => tS u13 kd mk wd r14
theorem w119 (v : Mem) (kd : Int32) (mk : Int64) : F_X7_wantPrint_119 v kd mk = bdI (F_X7_mayWant v 12403754 1 9999 1000) fun r11 u10 => tY u10 kd mk r11 := rfl
theorem tS_bad {v : Mem} {kd wd yr : Int32} {mk : Int64} (h : v.1 0 15 = 0) : tS v kd mk wd yr = some v := by
  unfold tS
  rw [if_pos h, w170]
  unfold F_X7_wantPrint_182 F_X7_wantPrint_209
  rw [if_pos h]
theorem tY_bad {v : Mem} {kd wd : Int32} {mk : Int64} (h : v.1 0 15 = 0) : tY v kd mk wd = some v := by
  unfold tY F_X7_mayWant F_X7_mayWant_15
  rw [if_pos h, bdI_s, tS_bad h]
theorem w119_bad {v : Mem} {kd : Int32} {mk : Int64} (h : v.1 0 15 = 0) : F_X7_wantPrint_119 v kd mk = some v := by
  rw [w119]
  unfold F_X7_mayWant F_X7_mayWant_15
  rw [if_pos h, bdI_s, tY_bad h]
theorem w36_bad {v : Mem} {kd : Int32} {mk : Int64} {x : Int32} {m : Nat} (h : v.1 0 15 = 0) : F_X7_wantPrint_36 (m + 1) v kd mk x = some v := by
  unfold F_X7_wantPrint_36
  rw [if_pos h, w119_bad h]
theorem isw_no {u : Mem} {i : Nat} (h : ¬ u.1 17 3 = 1) : F_X5_isWord u i = some (0, u) := by
  unfold F_X5_isWord F_X5_isWord_24
  rw [if_neg h]
section
variable {t : Nat → Nat} {k : Nat}
theorem TS.bad {e : Nat} {u v : Mem} {x : Int32} (h : TS t k e u v) : TS t k e u (sI v 0 15 x) := h.fr rfl rfl rfl (funext fun j => sI_i (by decide)) (fun j hj => sI_k hj) rfl
theorem TS.pr {e n j : Nat} {u v : Mem} {x : Int32} (h : TS t k e u v) : TS t k e (sI u (28 + n) j x) v := h.fr (funext fun j => sI_i (by omega)) (funext fun j => sI_i (by omega)) (funext fun j => sI_i (by omega)) rfl (fun _ _ => rfl) rfl
theorem WA.g {v v2 : Mem} (h : WA v v2) (g : v.1 0 15 = 1) : v2.1 0 15 = 1 := by rw [h.2.2 15 (by decide) (by decide) (by decide) (by decide)]; exact g
theorem rp_145 {n e e0 : Nat} {kd wd yr : Int32} {mk : Int64} {u v u0 v0 : Mem} (hT : TS t k e u v) (hg : v.1 0 15 = 1) (hP : PRn u v n kd mk wd yr 0) (ok : okP (kd, wd, yr, 0, mk)) (fc : FC u0 u) (fm : FM v0 v) (h0 : e0 ≤ e) (h1 : u.1 17 3 ≠ 0 → e0 < e) : ∃ r u' v', F_X5_readPrint_145 u (28 + n) = some (bi r, u') ∧ tS v kd mk wd yr = some v' ∧ OUT t k e0 r u0 v0 u' v' := by
  obtain ⟨w, hw, -, hww⟩ := word_both hT
  obtain ⟨c1, c2⟩ := hww 10 (by omega)
  have c2 : F_X7_isWord v 377771 = some (bi (decide (w = 10)), v) := c2
  unfold F_X5_readPrint_145 F_X5_readPrint_163 tS
  rw [c1, bdI_s, hg, ite10, c2, bdI_s, w170, w171]
  by_cases e10 : w = 10
  · rw [decide_eq_true e10, if_neg (show ¬ bi true = 0 by decide), if_neg (show ¬ bi true = 0 by decide)]
    obtain ⟨e', u', v', a1, a2, a3, a4, a5, a6, a7⟩ := step_TS (hT.pr (n := n) (j := 3) (x := 1))
    have P2 := (hP.s3 (x := 1)).w a3 a4
    rw [a1, bdV_s, a2, bdV_s, w182 (a4.g hg) P2.2.2.2.1 hP.1 true]
    have fm2 := fm.tr (a4.fm.tr (FM.nw (n := n) (k := kd) (mk := mk) (w := wd) (y := yr) (s := bi true)))
    exact ⟨true, u', _, rfl, rfl, fc.tr ((FC.si hP.1).tr a3.fc), fm2, e', by omega, a6.fr rfl rfl rfl (nwM_1 (by decide)) (fun j _ => by rw [nwM_1 (by decide)]) (nwM_2 (by decide)), Or.inl ⟨rfl, by rw [nwM_1 (by decide)]; exact a4.g hg, ⟨n + 1, P2.add ⟨ok.1, ok.2.1, ok.2.2.1, Or.inr rfl, ok.2.2.2.2⟩⟩, fun z => by have := a7 z; omega⟩⟩
  · rw [decide_eq_false e10, if_pos (show bi false = 0 from rfl), if_pos (show bi false = 0 from rfl), w182 hg hP.2.2.2.1 hP.1 false]
    exact ⟨true, u, _, rfl, rfl, fc, fm.tr FM.nw, e, h0, hT.fr rfl rfl rfl (nwM_1 (by decide)) (fun j _ => by rw [nwM_1 (by decide)]) (nwM_2 (by decide)), Or.inl ⟨rfl, by rw [nwM_1 (by decide)]; exact hg, ⟨n + 1, hP.add ok⟩, h1⟩⟩
theorem rp_107 {n e e0 : Nat} {kd wd : Int32} {mk : Int64} {u v u0 v0 : Mem} (hT : TS t k e u v) (hg : v.1 0 15 = 1) (hP : PRn u v n kd mk wd 0 0) (ok : okP (kd, wd, 0, 0, mk)) (fc : FC u0 u) (fm : FM v0 v) (h0 : e0 ≤ e) (h1 : u.1 17 3 ≠ 0 → e0 < e) : ∃ r u' v', F_X5_readPrint_107 u (28 + n) = some (bi r, u') ∧ tY v kd mk wd = some v' ∧ OUT t k e0 r u0 v0 u' v' := by
  unfold F_X5_readPrint_107 tY
  rcases mw_both (i := 9) 0 2000 0 hT hg (by omega) with ⟨c1, c2⟩ | ⟨c1, e1, u1, v1, a1, a2, a3, a4, a5, a6, rest⟩
  · have c2 : F_X7_mayWant v 495765 0 2000 0 = some (0, v) := c2
    rw [c1, bdI_s, ite00, c2, bdI_s]
    exact rp_145 hT hg hP ok fc fm h0 h1
  · rw [c1, bdI_s, ite10, a1, bdV_s]
    rcases rest with ⟨w, w1, w2, w3, w4, w5, w6⟩ | ⟨w5, r, w6⟩
    · have w6 : F_X7_mayWant v 495765 0 2000 0 = bdV (F_X7_advance v1) fun u3 => some (nI w, u3) := w6
      have hw : w ≤ 2000 := Nat.not_lt.mp (fun z => w3 (nI_lt (a := 2000) z (by omega)))
      rw [w5, bdI_s, ite10, w4, w6]
      obtain ⟨e2, u2, v2, b1, b2, b3, b4, b5, b6, b7⟩ := step_TS (a5.pr (n := n) (j := 2) (x := nI w))
      rw [b1, bdV_s, b2, bdV_s, bdI_s]
      exact rp_145 b6 (b4.g a6) (((hP.w a2 a3).s2 (x := nI w)).w b3 b4) ⟨ok.1, ok.2.1, ⟨w, hw, rfl⟩, ok.2.2.2⟩ (fc.tr (a2.fc.tr ((FC.si hP.1).tr b3.fc))) (fm.tr (a3.fm.tr b4.fm)) (by omega) (fun z => by have := b7 z; omega)
    · have w6 : F_X7_mayWant v 495765 0 2000 0 = some (r, sI v1 0 15 0) := w6
      rw [w5, bdI_s, ite00, w6, bdI_s, tS_bad sI_eq]
      exact ⟨false, u1, _, rfl, rfl, fc.tr a2.fc, fm.tr (a3.fm.tr FM.good), e1, by omega, a5.bad, Or.inr ⟨sI_eq, Or.inl rfl⟩⟩
theorem rp_69 {n e e0 : Nat} {kd : Int32} {mk : Int64} {u v u0 v0 : Mem} (hT : TS t k e u v) (hg : v.1 0 15 = 1) (hP : PRn u v n kd mk 1000 0 0) (ok : okP (kd, 1000, 0, 0, mk)) (fc : FC u0 u) (fm : FM v0 v) (h0 : e0 ≤ e) (h1 : u.1 17 3 ≠ 0 → e0 < e) : ∃ r u' v', F_X5_readPrint_69 u (28 + n) = some (bi r, u') ∧ F_X7_wantPrint_119 v kd mk = some v' ∧ OUT t k e0 r u0 v0 u' v' := by
  rw [w119]
  unfold F_X5_readPrint_69
  rcases mw_both (i := 8) 1 9999 1000 hT hg (by omega) with ⟨c1, c2⟩ | ⟨c1, e1, u1, v1, a1, a2, a3, a4, a5, a6, rest⟩
  · have c2 : F_X7_mayWant v 12403754 1 9999 1000 = some (1000, v) := c2
    rw [c1, bdI_s, ite00, c2, bdI_s]
    exact rp_107 hT hg hP ok fc fm h0 h1
  · rw [c1, bdI_s, ite10, a1, bdV_s]
    rcases rest with ⟨w, w1, w2, w3, w4, w5, w6⟩ | ⟨w5, r, w6⟩
    · have w6 : F_X7_mayWant v 12403754 1 9999 1000 = bdV (F_X7_advance v1) fun u3 => some (nI w, u3) := w6
      have hw : w ≤ 9999 := Nat.not_lt.mp (fun z => w3 (nI_lt (a := 9999) z (by omega)))
      have hw1 : 1 ≤ w := Nat.not_lt.mp (fun z => w2 (nI_lt (b := 1) z (by omega)))
      rw [w5, bdI_s, ite10, w4, w6]
      obtain ⟨e2, u2, v2, b1, b2, b3, b4, b5, b6, b7⟩ := step_TS (a5.pr (n := n) (j := 1) (x := nI w))
      rw [b1, bdV_s, b2, bdV_s, bdI_s]
      exact rp_107 b6 (b4.g a6) (((hP.w a2 a3).s1 (x := nI w)).w b3 b4) ⟨ok.1, ⟨w, hw1, hw, rfl⟩, ok.2.2⟩ (fc.tr (a2.fc.tr ((FC.si hP.1).tr b3.fc))) (fm.tr (a3.fm.tr b4.fm)) (by omega) (fun z => by have := b7 z; omega)
    · have w6 : F_X7_mayWant v 12403754 1 9999 1000 = some (r, sI v1 0 15 0) := w6
      rw [w5, bdI_s, ite00, w6, bdI_s, tY_bad sI_eq]
      exact ⟨false, u1, _, rfl, rfl, fc.tr a2.fc, fm.tr (a3.fm.tr FM.good), e1, by omega, a5.bad, Or.inr ⟨sI_eq, Or.inl rfl⟩⟩
theorem tok2 {e : Nat} {u v : Mem} (h : TS t k e u v) : (u.1 17 3 = 2 ∧ v.1 0 10 = 2 ∧ ∃ w, w ≤ 10000 ∧ u.1 17 6 = nI w ∧ v.1 0 14 = nI w) ∨ (¬ u.1 17 3 = 2 ∧ ¬ v.1 0 10 = 2) := by
  obtain ⟨hT, b, hK⟩ := h
  rcases hK.2.2.2.2.2.2 with ⟨a, c⟩ | ⟨a, c, _⟩ | ⟨a, c, _, w⟩ | ⟨a, c, _⟩ | ⟨a, c, _⟩
  · exact Or.inr ⟨by rw [a]; decide, by rw [c]; decide⟩
  · exact Or.inr ⟨by rw [a]; decide, by rw [c]; decide⟩
  · exact Or.inl ⟨a, c, w⟩
  · exact Or.inr ⟨by rw [a]; decide, by rw [c]; decide⟩
  · exact Or.inr ⟨by rw [a]; decide, by rw [c]; decide⟩
theorem rp_2 {n e0 : Nat} {kd : Int32} {u0 v0 : Mem} : ∀ (m c e : Nat) (mk : Int64) (u v : Mem), c ≤ 8 → 10 < m + c → TS t k e u v → v.1 0 15 = 1 → PRn u v n kd mk 1000 0 0 → okP (kd, 1000, 0, 0, mk) → FC u0 u → FM v0 v → e0 ≤ e → (u.1 17 3 ≠ 0 → e0 < e) → ∃ r u' v', F_X5_readPrint_2 m u (28 + n) (nI c) = some (bi r, u') ∧ F_X7_wantPrint_36 m v kd mk (nI c) = some v' ∧ OUT t k e0 r u0 v0 u' v' := by
  intro m
  induction m with
  | zero => intro c e mk u v h1 h2; omega
  | succ m ih =>
    intro c e mk u v hc hm hT hg hP ok fc fm h0 h1
    obtain ⟨m, rfl⟩ : ∃ j, m = j + 1 := ⟨m - 1, by omega⟩
    unfold F_X5_readPrint_2 F_X7_wantPrint_36
    rw [hg, ite10]
    rcases tok2 hT with ⟨s1, s2, w, w1, w2, w3⟩ | ⟨s1, s2⟩
    · rw [if_pos s1, if_pos s2]
      have badM : F_X7_wantPrint_89 (F_X7_wantPrint_36 (m + 1)) v kd mk (nI c) = some (sI v 0 15 0) := by
        unfold F_X7_wantPrint_89 F_X7_wantPrint_90
        rw [gz_0, sI_eq, ite00, w36_bad sI_eq]
      by_cases e8 : c = 8
      · subst e8
        have n1 : ¬ u.1 17 3 = 1 := by rw [s1]; decide
        rw [if_pos (show (8 : Int32) ≤ nI 8 by decide), if_pos (show (8 : Int32) ≤ nI 8 by decide), badM]
        unfold F_X5_readPrint_69 F_X5_readPrint_107 F_X5_readPrint_145 F_X5_readPrint_163
        rw [isw_no n1, bdI_s, ite00, isw_no n1, bdI_s, ite00, isw_no n1, bdI_s, ite00]
        exact ⟨true, u, _, rfl, rfl, fc, fm.tr FM.good, e, h0, hT.bad, Or.inr ⟨sI_eq, Or.inr s1⟩⟩
      · rw [if_neg (show ¬ (8 : Int32) ≤ nI c from nI_ge (b := 8) (by omega) (by omega)), if_neg (show ¬ (8 : Int32) ≤ nI c from nI_ge (b := 8) (by omega) (by omega)), w3]
        have fail : ∃ r u' v', some (0, u) = some (bi r, u') ∧ some (sI v 0 15 0) = some v' ∧ OUT t k e0 r u0 v0 u' v' := ⟨false, u, _, rfl, rfl, fc, fm.tr FM.good, e, h0, hT.bad, Or.inr ⟨sI_eq, Or.inl rfl⟩⟩
        unfold F_X5_isNumber F_X5_isNumber_28 F_X5_isNumber_29 F_X5_readPrint_42
        rw [if_pos s1, w2, gz_0, gz_1, if_neg (nI_pos (show w < 2 ^ 31 by omega))]
        by_cases e39 : w ≤ 39
        · have n39 : ¬ (39 : Int32) < nI w := nI_nlt (a := 39) e39 (by omega)
          rw [if_neg n39, bdI_s, ite10, in_y (nI_pos (show w < 2 ^ 31 by omega)) n39, bdI_s, ite10, badM, w2, w3, show u.2 (28 + n) 4 = mk from congrArg (fun z : PV => z.2.2.2.2) hP.2.2.2.2.2.2]
          cases hbit : b6 mk w
          · rw [if_pos ((mk_c (by omega)).mpr hbit), if_pos ((mk_m (by omega)).mpr hbit), bdV_s]
            unfold F_X7_wantPrint_90
            rw [gz_1, sI_eq, ite10, sI_id hg, w3]
            have hT2 : TS t k e (sL u (28 + n) 4 (mk ||| (1 <<< ((nI w).toInt64 &&& 63)))) v := hT.fr rfl rfl rfl rfl (fun _ _ => rfl) rfl
            obtain ⟨e2, u2, v2, b1, b2, b3, b4, b5, b6', b7⟩ := step_TS hT2
            rw [b1, bdV_s, b2, bdV_s, nI_1]
            exact ih (c + 1) e2 _ u2 v2 (by omega) (by omega) b6' (b4.g hg) ((hP.s4).w b3 b4) (ok_mark ok (fun i hi hb => by
              rw [b6_or, Bool.or_eq_true] at hb
              rcases hb with z | z
              · exact ok_b6 ok z
              · exact pl_ok w (by omega) i hi z)) (fc.tr ((FC.sl hP.1).tr b3.fc)) (fm.tr b4.fm) (by omega) (fun z => by have := b7 z; omega)
          · rw [if_neg (fun z => by rw [(mk_c (by omega)).mp z] at hbit; exact absurd hbit (by decide)), if_neg (fun z => by rw [(mk_m (by omega)).mp z] at hbit; exact absurd hbit (by decide))]
            exact fail
        · have n39 : (39 : Int32) < nI w := nI_lt (a := 39) (by omega) (by omega)
          rw [if_pos n39, bdI_s, ite00, in_n (Or.inr n39), bdI_s, ite00, badM]
          exact fail
    · rw [if_neg s1, if_neg s2, ite_self]
      exact rp_69 hT hg hP ok fc fm h0 h1
/-! one item -/
def kv (w : Nat) : Int32 := if w = 2 then 0 else if w = 3 then 1 else if w = 4 then 2 else if w = 5 then 3 else if w = 6 then 4 else if w = 7 then 5 else -1
theorem item_slack {n e : Nat} {u v : Mem} (hT : TS t k e u v) (hg : v.1 0 15 = 1) (hA : RAr u v 1 1 2 n) : ∃ r u' v', (bdV (F_X5_step u) fun u33 => bdI (F_X5_readSlack u33) fun r37 u36 => gz r37 <| some (r37, u36)) = some (bi r, u') ∧ F_X7_wantSlack v = some v' ∧ OUT t k e r u v u' v' := by
  obtain ⟨e1, u1, v1, a1, a2, a3, a4, a5, a6, a7⟩ := step_TS hT
  unfold F_X7_wantSlack F_X5_readSlack F_X7_wantSlack_27
  rw [a1, bdV_s, a2, bdV_s]
  rcases num_both 0 999 a6 (a4.g hg) with ⟨w, x1, x2, x3, x4, x5, x6, x7, x8, x9⟩ | ⟨x1, r, x2⟩
  · have hw : w ≤ 999 := Nat.not_lt.mp (fun z => x3 (nI_lt (a := 999) z (by omega)))
    have hT2 : TS t k e1 (sI u1 4 2 (nI w)) v1 := a6.fr (funext fun j => sI_i (by decide)) (funext fun j => sI_i (by decide)) (funext fun j => sI_i (by decide)) rfl (fun _ _ => rfl) rfl
    obtain ⟨e2, u2, v2, b1, b2, b3, b4, b5, b6', b7⟩ := step_TS hT2
    rw [x8, bdI_s, ite10, x6, b1, bdV_s, bdI_s, gz_1, x9, b2, bdV_s, bdI_s, b4.g (a4.g hg), ite10, gd_c1, cl_1]
    obtain ⟨q1, q2, q3, q4, q5, q6⟩ := hA.w a3 a4
    refine ⟨true, u2, _, rfl, rfl, a3.fc.tr (FC.s4.tr b3.fc), a4.fm.tr (b4.fm.tr FM.s1), e2, by omega, b6'.fr rfl rfl rfl (funext fun j => sI_i (by decide)) (fun j _ => sI_i (by decide)) rfl, Or.inl ⟨rfl, by rw [sI_i (by decide)]; exact b4.g (a4.g hg), ⟨n, q1, ?_, ?_, ?_, ⟨w, hw, sI_eq⟩, fun p hp => ?_⟩, fun z => by have := b7 z; omega⟩⟩
    · rw [b3.2 (1 + 3) (by decide)]
      exact (sI_k (by decide)).trans q2
    · rw [sI_k (by decide), b4.1 1 (by decide)]; exact q3
    · rw [b3.2 (1 + 3) (by decide), sI_eq (u := v2)]; exact sI_eq
    · rw [vM_h (by decide), show vM v2 1 2 p = vM v1 1 2 p by unfold vM; rw [b4.1 1 (by decide), b4.2.1 2 (by decide)], prC_eq (u := sI u1 4 2 (nI w)) (b3.2 _ (by omega)) (by rw [b3.1]), prC_ne (by omega)]
      exact q6 p hp
  · rw [x1, bdI_s, ite00, bdI_s, gz_0, x2, bdI_s, sI_eq, ite00]
    exact ⟨false, u1, _, rfl, rfl, a3.fc, a4.fm.tr FM.good, e1, a5, a6.bad, Or.inr ⟨sI_eq, Or.inl rfl⟩⟩
theorem item_look {n e : Nat} {u v : Mem} (hT : TS t k e u v) (hg : v.1 0 15 = 1) (hA : RAr u v 1 1 2 n) : ∃ r u' v', (bdV (F_X5_step u) fun u26 => bdI (F_X5_readLook u26) fun r30 u29 => gz r30 <| some (r30, u29)) = some (bi r, u') ∧ F_X7_wantLook v = some v' ∧ OUT t k e r u v u' v' := by
  obtain ⟨e1, u1, v1, a1, a2, a3, a4, a5, a6, a7⟩ := step_TS hT
  have hA1 := hA.w a3 a4
  have hn := hA1.1
  unfold F_X7_wantLook F_X5_readLook F_X7_wantLook_32
  rw [a1, bdV_s, a2, bdV_s, gd_c0, cl_0, show u1.1 4 1 = nI n from hA1.2.1, hA1.2.2.1]
  rcases num_both 0 (nI n - 1) a6 (a4.g hg) with ⟨w, x1, x2, x3, x4, x5, x6, x7, x8, x9⟩ | ⟨x1, r, x2⟩
  · have hw : w < n := by
      cases n with
      | zero =>
        refine absurd ?_ x3
        rw [Int32.lt_iff_toInt_lt, nI_toInt (by omega), show (nI 0 - 1 : Int32).toInt = -1 from rfl]
        omega
      | succ n =>
        rw [nI_pred] at x3
        exact Nat.lt_succ_of_le (Nat.not_lt.mp (fun z => x3 (nI_lt z (by omega))))
    have hT2 : TS t k e1 (sI u1 (28 + w) 3 1) v1 := a6.pr
    obtain ⟨e2, u2, v2, b1, b2, b3, b4, b5, b6', b7⟩ := step_TS hT2
    rw [x8, bdI_s, ite10, x6, gd_nI _ (show w < 12 by omega) (by omega), cl_nI (show w < 12 by omega), b1, bdV_s, bdI_s, gz_1, x9, b2, bdV_s, bdI_s, b4.g (a4.g hg), ite10, show F_X7_sets v2 (nI w) 3 1 = some (sI v2 1 (2 + 4 * w + 3) 1) from sets_M (show w < 12 by omega) (w := 3) (by omega), bdV_s]
    have hv2 : ∀ p, vM v2 1 2 p = vM v1 1 2 p := fun p => by unfold vM; rw [b4.1 1 (by decide), b4.2.1 2 (by decide)]
    have hu2 : ∀ p, p < 12 → prC u2 (28 + p) = prC (sI u1 (28 + w) 3 1) (28 + p) := fun p hp => prC_eq (b3.2 _ (by omega)) (by rw [b3.1])
    refine ⟨true, u2, _, rfl, rfl, a3.fc.tr ((FC.si (by omega)).tr b3.fc), a4.fm.tr (b4.fm.tr FM.s1), e2, by omega, b6'.fr rfl rfl rfl (funext fun j => sI_i (by decide)) (fun j _ => sI_i (by decide)) rfl, Or.inl ⟨rfl, by rw [sI_i (by decide)]; exact b4.g (a4.g hg), ⟨n, hA1.one (p := w) ?_ ?_ ?_ (fun q hq hne => ⟨?_, ?_⟩) (fun _ => ?_)⟩, fun z => by have := b7 z; omega⟩⟩
    · rw [b3.2 4 (by decide)]; exact funext fun j => sI_i (by omega)
    · rw [sI_k (by omega), b4.1 1 (by decide)]
    · rw [sI_k (by omega), b4.1 1 (by decide)]
    · rw [hu2 q (by omega), prC_ne (by omega)]
    · rw [vM_ne hne (by omega), hv2]
    · have o := hA1.ok hw
      rw [hu2 w (by omega), prC_3, vM_3, hv2, hA1.at hw]
      exact ⟨rfl, o.1, o.2.1, o.2.2.1, Or.inr rfl, o.2.2.2.2⟩
  · rw [x1, bdI_s, ite00, bdI_s, gz_0, x2, bdI_s, sI_eq, ite00]
    exact ⟨false, u1, _, rfl, rfl, a3.fc, a4.fm.tr FM.good, e1, a5, a6.bad, Or.inr ⟨sI_eq, Or.inl rfl⟩⟩
theorem item_print {n e kd : Nat} {u v : Mem} (hk : kd < 6) (hT : TS t k e u v) (hg : v.1 0 15 = 1) (hA : RAr u v 1 1 2 n) : ∃ r u' v', (bdI (F_X0_hang 1 u (nI kd) 0) fun r14 u13 => if r14 = -1 then some (0, u13) else bdV (F_X5_step u13) fun u17 => gd r14 12 <| bdI (F_X5_readPrint u17 (28 + r14.toNatClampNeg)) fun r23 u22 => gz r23 <| some (r23, u22)) = some (bi r, u') ∧ F_X7_wantPrint v (nI kd) = some v' ∧ OUT t k e r u v u' v' := by
  obtain ⟨q1, q2, q3, q4, q5, q6⟩ := id hA
  have q2 : u.1 4 1 = nI n := q2
  unfold F_X7_wantPrint F_X7_wantPrint_17 F_X7_wantPrint_31
  rw [gd_c0, cl_0, q3]
  by_cases hn : n < 12
  · rw [hang_C q2 hn, bdI_s, if_neg (fun z => by
      have := nI_pos (n := n) (by omega)
      rw [z] at this
      exact this (by decide)), if_neg (show ¬ (12 : Int32) ≤ nI n from nI_ge (b := 12) hn (by omega)), gz_1, sI_eq, ite10, sI_id hg]
    have e4 : ∀ c, c ≠ 4 → c ≠ 28 + n → (nwC u n (nI kd) 0).1 c = u.1 c := fun c a b => funext fun j => by
      unfold nwC
      rw [sI_i a, sL_1, sI_i b, sI_i b, sI_i b, sI_i b]
    have e5 : ∀ c, c ≠ 28 + n → (nwC u n (nI kd) 0).2 c = u.2 c := fun c b => funext fun j => by
      unfold nwC
      rw [sI_2, sL_i b]; rfl
    have hT2 : TS t k e (nwC u n (nI kd) 0) v := hT.fr (e4 15 (by decide) (by omega)) (e4 16 (by decide) (by omega)) (e4 17 (by decide) (by omega)) rfl (fun _ _ => rfl) rfl
    have hP : PRn (nwC u n (nI kd) 0) v n (nI kd) (0 &&& 1099511627775) 1000 0 0 := by
      refine ⟨hn, by unfold nwC; rw [sI_eq], ?_, q3, q5, fun p hp => ?_, by rw [prC_nw, if_pos rfl]⟩
      · rw [← q4]
        unfold nwC
        rw [sI_k (by decide), sL_1, sI_i (show (4 : Nat) ≠ 28 + n by omega), sI_i (show (4 : Nat) ≠ 28 + n by omega), sI_i (show (4 : Nat) ≠ 28 + n by omega), sI_i (show (4 : Nat) ≠ 28 + n by omega)]
      · rw [prC_nw, if_neg (by omega)]
        exact ⟨hA.at hp, hA.ok hp⟩
    obtain ⟨e2, u2, v2, b1, b2, b3, b4, b5, b6', b7⟩ := step_TS hT2
    rw [b1, bdV_s, b2, bdV_s, gd_nI _ hn (by omega), cl_nI hn]
    have z0 : (0 : Int64) &&& 1099511627775 = 0 := by decide
    rw [z0] at hP
    obtain ⟨r, u3, v3, c1, c2, c3⟩ := rp_2 (t := t) (k := k) (n := n) (e0 := e) (kd := nI kd) (u0 := u) (v0 := v) fu 0 e2 0 u2 v2 (by omega) (by unfold fu; omega) b6' (b4.g hg) (hP.w b3 b4) ⟨⟨kd, hk, rfl⟩, ⟨1000, by omega, by omega, rfl⟩, ⟨0, by omega, rfl⟩, Or.inl rfl, z0⟩ (FC.tr (u2 := nwC u n (nI kd) 0) (fun c a _ b => ⟨e4 c a (by omega), e5 c (by omega)⟩) b3.fc) b4.fm b5 b7
    have z : nI 0 = (0 : Int32) := rfl
    rw [z] at c1 c2
    unfold F_X5_readPrint
    rw [c1, bdI_s, gz_bi, c2]
    exact ⟨r, u3, v3, rfl, rfl, c3⟩
  · have hf : F_X0_hang 1 u (nI kd) 0 = some (-1, u) := by
      unfold F_X0_hang F_X0_isFull F_X0_isFull_14
      rw [show u.1 (1 + 3) 1 = nI n from q2, if_neg (show ¬ nI n < (12 : Int32) from nI_nlt (b := 12) (by omega) (by omega)), gz_1, bdI_s, ite10]
    rw [hf, bdI_s, if_pos rfl, if_pos (show (12 : Int32) ≤ nI n from nI_le (a := 12) (by omega) (by omega)), gz_0, sI_eq, ite00, show fu = 4999 + 1 from rfl, w36_bad sI_eq]
    exact ⟨false, u, _, rfl, rfl, FC.rf u, FM.good, e, Nat.le_refl e, hT.bad, Or.inr ⟨sI_eq, Or.inl rfl⟩⟩
theorem item_both {n e : Nat} {u v : Mem} (hT : TS t k e u v) (hg : v.1 0 15 = 1) (hA : RAr u v 1 1 2 n) : ∃ r u' v', F_X5_readItem u = some (bi r, u') ∧ F_X7_wantItem v = some v' ∧ OUT t k e r u v u' v' := by
  obtain ⟨w, hw, -, hww⟩ := word_both hT
  have c0 := (hww 0 (by omega)).1
  have c1 := (hww 1 (by omega)).1
  have c2 := (hww 2 (by omega)).1
  have c3 := (hww 3 (by omega)).1
  have c4 := (hww 4 (by omega)).1
  have c5 := (hww 5 (by omega)).1
  have c6 := (hww 6 (by omega)).1
  have c7 := (hww 7 (by omega)).1
  have m0 : F_X7_isWord v 10334396 = some (bi (decide (w = 0)), v) := (hww 0 (by omega)).2
  have m1 : F_X7_isWord v 247547 = some (bi (decide (w = 1)), v) := (hww 1 (by omega)).2
  have m2 : F_X7_isWord v 8864309 = some (bi (decide (w = 2)), v) := (hww 2 (by omega)).2
  have m3 : F_X7_isWord v 1489745 = some (bi (decide (w = 3)), v) := (hww 3 (by omega)).2
  have m4 : F_X7_isWord v 60311 = some (bi (decide (w = 4)), v) := (hww 4 (by omega)).2
  have m5 : F_X7_isWord v 94424593 = some (bi (decide (w = 5)), v) := (hww 5 (by omega)).2
  have m6 : F_X7_isWord v 9667127 = some (bi (decide (w = 6)), v) := (hww 6 (by omega)).2
  have m7 : F_X7_isWord v 189443911 = some (bi (decide (w = 7)), v) := (hww 7 (by omega)).2
  have w12 : w = 0 ∨ w = 1 ∨ w = 2 ∨ w = 3 ∨ w = 4 ∨ w = 5 ∨ w = 6 ∨ w = 7 ∨ w = 8 ∨ w = 9 ∨ w = 10 ∨ w = 11 := by omega
  have kn : F_X5_kindNamed u = some (kv w, u) := by
    unfold F_X5_kindNamed F_X5_kindNamed_69
    simp only [c2, c3, c4, c5, c6, c7, bdI_s]
    clear c0 c1 c2 c3 c4 c5 c6 c7 m0 m1 m2 m3 m4 m5 m6 m7 hww
    rcases w12 with rfl | rfl | rfl | rfl | rfl | rfl | rfl | rfl | rfl | rfl | rfl | rfl <;> rfl
  have kh : F_X7_kindHere v = some (kv w, v) := by
    unfold F_X7_kindHere F_X7_kindHere_85
    simp only [m2, m3, m4, m5, m6, m7, bdI_s]
    clear c0 c1 c2 c3 c4 c5 c6 c7 m0 m1 m2 m3 m4 m5 m6 m7 hww
    rcases w12 with rfl | rfl | rfl | rfl | rfl | rfl | rfl | rfl | rfl | rfl | rfl | rfl <;> rfl
  unfold F_X5_readItem F_X7_wantItem F_X7_wantItem_57
  rw [c0, bdI_s, kh, bdI_s]
  have none : kv w = -1 → ¬ w = 0 → ¬ w = 1 → ∃ r u' v', (if bi (decide (w = 0)) = 0 then (bdI (F_X5_isWord u 1) fun r6 u5 => if r6 = 0 then (bdI (F_X5_kindNamed u5) fun r10 u9 => if r10 = -1 then some (0, u9) else bdI (F_X0_hang 1 u9 r10 0) fun r14 u13 => if r14 = -1 then some (0, u13) else bdV (F_X5_step u13) fun u17 => gd r14 12 <| bdI (F_X5_readPrint u17 (28 + r14.toNatClampNeg)) fun r23 u22 => gz r23 <| some (r23, u22)) else (bdV (F_X5_step u5) fun u26 => bdI (F_X5_readLook u26) fun r30 u29 => gz r30 <| some (r30, u29))) else (bdV (F_X5_step u) fun u33 => bdI (F_X5_readSlack u33) fun r37 u36 => gz r37 <| some (r37, u36))) = some (bi r, u') ∧ (if kv w < 0 then (bdI (F_X7_isWord v 10334396) fun r6 u5 => if r6 = 0 then (bdI (F_X7_isWord u5 247547) fun r10 u9 => if r10 = 0 then some (sI u9 0 15 0) else bdV (F_X7_wantLook u9) fun u13 => some u13) else bdV (F_X7_wantSlack u5) fun u16 => some u16) else (bdI (F_X7_kindHere v) fun r20 u19 => bdV (F_X7_wantPrint u19 r20) fun u22 => some u22)) = some v' ∧ OUT t k e r u v u' v' := fun k1 k2 k3 => by
    rw [decide_eq_false k2, if_pos (show bi false = 0 from rfl), c1, decide_eq_false k3, bdI_s, if_pos (show bi false = 0 from rfl), kn, bdI_s, if_pos k1, k1, if_pos (by decide), m0, decide_eq_false k2, bdI_s, if_pos (show bi false = 0 from rfl), m1, decide_eq_false k3, bdI_s, if_pos (show bi false = 0 from rfl)]
    exact ⟨false, u, _, rfl, rfl, FC.rf u, FM.good, e, Nat.le_refl e, hT.bad, Or.inr ⟨sI_eq, Or.inl rfl⟩⟩
  have kind : ∀ kd, kd < 6 → kv w = nI kd → ¬ w = 0 → ¬ w = 1 → ∃ r u' v', (if bi (decide (w = 0)) = 0 then (bdI (F_X5_isWord u 1) fun r6 u5 => if r6 = 0 then (bdI (F_X5_kindNamed u5) fun r10 u9 => if r10 = -1 then some (0, u9) else bdI (F_X0_hang 1 u9 r10 0) fun r14 u13 => if r14 = -1 then some (0, u13) else bdV (F_X5_step u13) fun u17 => gd r14 12 <| bdI (F_X5_readPrint u17 (28 + r14.toNatClampNeg)) fun r23 u22 => gz r23 <| some (r23, u22)) else (bdV (F_X5_step u5) fun u26 => bdI (F_X5_readLook u26) fun r30 u29 => gz r30 <| some (r30, u29))) else (bdV (F_X5_step u) fun u33 => bdI (F_X5_readSlack u33) fun r37 u36 => gz r37 <| some (r37, u36))) = some (bi r, u') ∧ (if kv w < 0 then (bdI (F_X7_isWord v 10334396) fun r6 u5 => if r6 = 0 then (bdI (F_X7_isWord u5 247547) fun r10 u9 => if r10 = 0 then some (sI u9 0 15 0) else bdV (F_X7_wantLook u9) fun u13 => some u13) else bdV (F_X7_wantSlack u5) fun u16 => some u16) else (bdI (F_X7_kindHere v) fun r20 u19 => bdV (F_X7_wantPrint u19 r20) fun u22 => some u22)) = some v' ∧ OUT t k e r u v u' v' := fun kd hk k1 k2 k3 => by
    have np := nI_pos (n := kd) (by omega)
    rw [decide_eq_false k2, if_pos (show bi false = 0 from rfl), c1, decide_eq_false k3, bdI_s, if_pos (show bi false = 0 from rfl), kn, bdI_s, kh, bdI_s, k1, if_neg (fun z => by rw [z] at np; exact np (by decide)), if_neg np]
    obtain ⟨r, u', v', d1, d2, d3⟩ := item_print hk hT hg hA
    rw [d1, d2, bdV_s]
    exact ⟨r, u', v', rfl, rfl, d3⟩
  rcases w12 with e0 | e0 | e0 | e0 | e0 | e0 | e0 | e0 | e0 | e0 | e0 | e0
  · rw [decide_eq_true e0, if_neg (show ¬ bi true = 0 by decide), show kv w = -1 by rw [e0]; rfl, if_pos (by decide), m0, decide_eq_true e0, bdI_s, if_neg (show ¬ bi true = 0 by decide)]
    obtain ⟨r, u', v', d1, d2, d3⟩ := item_slack hT hg hA
    rw [d1, d2, bdV_s]
    exact ⟨r, u', v', rfl, rfl, d3⟩
  · have n0 : ¬ w = 0 := by omega
    rw [decide_eq_false n0, if_pos (show bi false = 0 from rfl), c1, decide_eq_true e0, bdI_s, if_neg (show ¬ bi true = 0 by decide), show kv w = -1 by rw [e0]; rfl, if_pos (by decide), m0, decide_eq_false n0, bdI_s, if_pos (show bi false = 0 from rfl), m1, decide_eq_true e0, bdI_s, if_neg (show ¬ bi true = 0 by decide)]
    obtain ⟨r, u', v', d1, d2, d3⟩ := item_look hT hg hA
    rw [d1, d2, bdV_s]
    exact ⟨r, u', v', rfl, rfl, d3⟩
  · exact kind 0 (by omega) (by rw [e0]; rfl) (by omega) (by omega)
  · exact kind 1 (by omega) (by rw [e0]; rfl) (by omega) (by omega)
  · exact kind 2 (by omega) (by rw [e0]; rfl) (by omega) (by omega)
  · exact kind 3 (by omega) (by rw [e0]; rfl) (by omega) (by omega)
  · exact kind 4 (by omega) (by rw [e0]; rfl) (by omega) (by omega)
  · exact kind 5 (by omega) (by rw [e0]; rfl) (by omega) (by omega)
  · exact none (by rw [e0]; rfl) (by omega) (by omega)
  · exact none (by rw [e0]; rfl) (by omega) (by omega)
  · exact none (by rw [e0]; rfl) (by omega) (by omega)
  · exact none (by rw [e0]; rfl) (by omega) (by omega)
/-! all items -/
theorem text_bad {u v : Mem} {x : Int32} (hR : Rest u v) (hb : u.1 17 4 = v.1 0 11) : ∃ r u' v', F_X5_readArchive_65 u = some (r, u') ∧ F_X7_text_95 v x 0 = some (r, v') ∧ (∃ n, RAr u' v' 1 1 2 n) ∧ Rest u' v' ∧ v'.1 0 9 = 0 := by
  obtain ⟨hK, hS, hF, n3, hB⟩ := id hR
  obtain ⟨hn, hs, -⟩ := id hB
  obtain ⟨u1, e1, p1, p2, p3, p4⟩ := bec_C (t := 1) (t2 := 3) (u := u) (by omega) (by omega) (by omega) (by omega) (by omega) hn hs (fun p hp => by
    have h := (hB.ok hp).2.2.2.1
    rw [← (hB.2.2.2.2.2 p hp).1] at h
    exact h)
  obtain ⟨v1, f1, f2, f3, f4⟩ := mv_back (ro := 15) (mu := 17) (v := sI (sI v 0 15 0) 0 9 0) rfl (by omega) rfl rfl (by omega)
  have g : (sI (sI v 0 15 0) 0 9 0).1 0 15 = 0 := by rw [sI_k (by decide), sI_eq]
  have fmv : FM v (sI (sI v 0 15 0) 0 9 0) := FM.good.tr ⟨fun c a _ => funext fun j => sI_i a, fun _ _ _ => rfl, sI_k (by decide)⟩
  have fm1 : FM v v1 := fmv.tr ⟨fun c _ b => f2 c b, fun c _ b => f3 c b, by rw [f2 0 (by decide)]⟩
  have fc1 : FC u u1 := fun c a _ d => p4 c (by omega) (by omega)
  have hB2 : RAr u (sI (sI v 0 15 0) 0 9 0) 3 15 17 n3 := hB.congr rfl rfl (funext fun j => by rw [sI_i (by decide), sI_i (by decide)]) (fun _ _ => rfl) (fun _ _ => rfl)
  unfold F_X5_readArchive_65 F_X7_text_95
  rw [e1, bdV_s, gz_0, g, ite00, f1, bdV_s, f2 0 (by decide), (p4 17 (by omega) (by omega)).1, hb, sI_k (show (11 : Nat) ≠ 9 by decide), sI_k (show (11 : Nat) ≠ 15 by decide)]
  exact ⟨_, u1, v1, rfl, rfl, ⟨n3, hB2.move p1 p2 p3 f4⟩, hR.fr fc1 fm1, by rw [f2 0 (by decide), sI_eq]⟩
theorem text_L : ∀ (m i e n : Nat) (u v : Mem), i ≤ e → e ≤ k → 121 < m + i → TP t k u v → u.1 17 5 = nI e → v.1 0 12 = nI e → v.1 0 15 = 1 → RAr u v 1 1 2 n → Rest u v → ∃ r u' v', (bdV (F_X5_step u) fun u11 => F_X5_readArchive_22 m u11 (nI i)) = some (r, u') ∧ F_X7_text_27 m v (nI i) 1 = some (r, v') ∧ (∃ n, RAr u' v' 1 1 2 n) ∧ Rest u' v' ∧ v'.1 0 9 = 0 := by
  intro m
  induction m with
  | zero => intro i e n u v h1 h2 h3 hT; have := hT.1; omega
  | succ m ih =>
    intro i e n u v h1 h2 h3 hT hu hv hg hA hR
    have hk := hT.1
    obtain ⟨b1, e1, u1, v1, a1, a2, a3, a4, a5, a6, a7⟩ := step_both hT h2 hu hv
    have hb1 := a7.1
    obtain ⟨r, u2, v2, c1, c2, fc, fm, e2, c3, c4, c5⟩ := item_both (t := t) (k := k) (e := e1) ⟨a6, b1, a7⟩ (a4.g hg) (hA.w a3 a4)
    have R2 : Rest u2 v2 := (hR.fr a3.fc a4.fm).fr fc fm
    obtain ⟨b2, hK2⟩ := c4.2
    have hb2 : u2.1 17 4 = v2.1 0 11 := by rw [hK2.2.2.1, hK2.2.2.2.1]
    obtain ⟨m, rfl⟩ : ∃ j, m = j + 1 := ⟨m - 1, by omega⟩
    have bad0 : (v2.1 0 15 = 0 ∨ ¬ v2.1 0 10 = 0) → ∀ x, F_X7_text_27 (m + 1) v2 x 0 = F_X7_text_95 v2 x 0 := fun hh x => by
      unfold F_X7_text_27 F_X7_text_94
      rw [ite00]
      by_cases z : v2.1 0 15 = 0
      · rw [if_pos z]
      · rw [if_neg z, if_neg (hh.resolve_left z)]
    rw [a1, bdV_s]
    rw [show F_X5_readArchive_22 (m + 1 + 1) u1 (nI i) = (if (120 : Int32) < nI i then F_X5_readArchive_65 u1 else bdI (F_X5_readItem u1) fun r6 u5 => if r6 = 0 then F_X5_readArchive_65 u5 else if u5.1 17 3 = 0 then some (nI i + 1, u5) else if u5.1 17 3 = 3 then bdV (F_X5_step u5) fun u11 => F_X5_readArchive_22 (m + 1) u11 (nI i + 1) else F_X5_readArchive_65 u5) from rfl, show F_X7_text_27 (m + 1 + 1) v (nI i) 1 = (bdV (F_X7_advance v) fun u9 => bdV (F_X7_wantItem u9) fun u12 => if u12.1 0 15 = 0 then F_X7_text_27 (m + 1) u12 (nI i + 1) 0 else if u12.1 0 10 = 3 then (if u12.1 0 14 = 59 then F_X7_text_27 (m + 1) u12 (nI i + 1) 1 else F_X7_text_27 (m + 1) u12 (nI i + 1) 0) else F_X7_text_27 (m + 1) u12 (nI i + 1) 0) from rfl]
    rw [if_neg (show ¬ (120 : Int32) < nI i from nI_nlt (a := 120) (by omega) (by omega)), c1, bdI_s, a2, bdV_s, c2, bdV_s, nI_1]
    rcases c5 with ⟨er, g2, ⟨n2, hA2⟩, pr⟩ | ⟨g2, er⟩
    · subst er
      rw [if_neg (show ¬ bi true = 0 by decide), g2, ite10]
      rcases hK2.2.2.2.2.2.2 with ⟨a, c⟩ | ⟨a, c, _⟩ | ⟨a, c, _⟩ | ⟨a, c, _, d⟩ | ⟨a, c, _, d⟩
      · rw [if_pos a, c, if_neg (by decide)]
        unfold F_X7_text_27 F_X7_text_95
        rw [ite00, g2, ite10, c, if_pos rfl, gz_1, sI_k (show (15 : Nat) ≠ 9 by decide), sI_eq, ite10, sI_id g2]
        have fm3 : FM v2 (sI v2 0 9 0) := ⟨fun c a _ => funext fun j => sI_i a, fun _ _ _ => rfl, sI_k (by decide)⟩
        exact ⟨_, u2, _, rfl, rfl, ⟨n2, hA2.congr rfl rfl (funext fun j => sI_i (by decide)) (fun _ _ => rfl) (fun _ _ => rfl)⟩, R2.fr (FC.rf u2) fm3, sI_eq⟩
      · rw [a, c, if_neg (by decide), if_neg (by decide), if_neg (by decide), bad0 (Or.inr (by rw [c]; decide))]
        exact text_bad R2 hb2
      · rw [a, c, if_neg (by decide), if_neg (by decide), if_neg (by decide), bad0 (Or.inr (by rw [c]; decide))]
        exact text_bad R2 hb2
      · have p2 := pr (by rw [a]; decide)
        rw [a, c, if_neg (by decide), if_pos rfl, if_pos rfl, d, if_pos rfl]
        exact ih (i + 1) e2 n2 u2 v2 (by omega) hK2.2.1 (by omega) c4.1 hK2.2.2.2.2.1 hK2.2.2.2.2.2.1 g2 hA2 R2
      · rw [a, c, if_neg (by decide), if_neg (by decide), if_pos rfl, if_neg d, bad0 (Or.inr (by rw [c]; decide))]
        exact text_bad R2 hb2
    · rw [g2, ite00, bad0 (Or.inl g2)]
      rcases er with er | er
      · subst er
        rw [if_pos (show bi false = 0 from rfl)]
        exact text_bad R2 hb2
      · rw [er, if_neg (show ¬ (2 : Int32) = 0 by decide), if_neg (show ¬ (2 : Int32) = 3 by decide), ite_self]
        exact text_bad R2 hb2
end
theorem ST31 : ST_31 Rel := by
  intro u v hR
  obtain ⟨⟨n, hA⟩, hK, ⟨k, t1, t2, t3, t4⟩, hS, hF⟩ := id hR
  obtain ⟨hn, hs, -⟩ := id hA
  obtain ⟨u1, e1, p1, p2, p3, p4⟩ := bec_C (t := 3) (t2 := 1) (u := u) (by omega) (by omega) (by omega) (by omega) (by omega) hn hs (fun p hp => by
    have h := (hA.ok hp).2.2.2.1
    rw [← hA.at hp] at h
    exact h)
  obtain ⟨v1, f1, f2, f3, f4⟩ := mv_keep (ro := 15) (mu := 17) (v := v) rfl (by omega) rfl rfl (by omega)
  have c1 : ∀ c, c ≠ 6 → c < 52 → u1.1 c = u.1 c ∧ u1.2 c = u.2 c := fun c a b => p4 c (by omega) (by omega)
  have hA1 : RAr u1 v1 1 1 2 n := hA.congr (by rw [(c1 (1 + 3) (by decide) (by decide)).1]) (by rw [(c1 (1 + 3) (by decide) (by decide)).1]) (f2 1 (by decide)) (fun p _ => by rw [f3 2 (by decide)]) (fun p hp => prC_eq (c1 _ (by omega) (by omega)).1 (c1 _ (by omega) (by omega)).2)
  have hB1 : RAr u1 v1 3 15 17 n := hA.move p1 p2 p3 f4
  have hRest : Rest u1 v1 := by
    refine ⟨⟨by rw [(c1 0 (by decide) (by decide)).1, f2 0 (by decide)]; exact hK.1, ?_⟩, fun s hs => (hS s hs).congr (c1 _ (by omega) (by omega)).1 (c1 _ (by omega) (by omega)).2 (by rw [f2 10 (by decide)]) (by rw [f2 11 (by decide)]) (fun k _ => by rw [f3 12 (by decide)]), fun k hk => by rw [(c1 27 (by decide) (by decide)).1, f2 3 (by decide)]; exact hF k hk, n, hB1⟩
    rw [f2 0 (by decide)]
    rcases hK.2 with z | ⟨z, n2, z2⟩
    · exact Or.inl z
    · have := z2.1
      exact Or.inr ⟨z, n2, z2.congr (by rw [(c1 (2 + 3) (by decide) (by decide)).1]) (by rw [(c1 (2 + 3) (by decide) (by decide)).1]) (f2 14 (by decide)) (fun p _ => by rw [f3 16 (by decide)]) (fun p hp => prC_eq (c1 _ (by omega) (by omega)).1 (c1 _ (by omega) (by omega)).2)⟩
  have w1 : WS u1 (sI u1 17 5 0) := WS.set
  have w2 : WA v1 (sI v1 0 12 0) := WA.set (by omega)
  have fmg : FM (sI v1 0 12 0) (sI (sI v1 0 12 0) 0 15 1) := FM.good
  have hT : TP (fun j => (v.1 9 j).toNatClampNeg) k (sI u1 17 5 0) (sI (sI v1 0 12 0) 0 15 1) := by
    refine ⟨t1, ?_, ?_, fun j hj => ?_⟩
    · rw [sI_i (by decide), (c1 15 (by decide) (by decide)).1]; exact t2
    · rw [sI_k (by decide), sI_k (by decide), f2 0 (by decide)]; exact t3
    · obtain ⟨q1, b, q2, q3⟩ := t4 j hj
      rw [sI_i (by decide), (c1 16 (by decide) (by decide)).1, sI_i (by decide), sI_i (by decide), f2 9 (by decide), q1, q3]
      show nI b = nI ((v.1 9 j).toNatClampNeg) ∧ nI b = nI ((v.1 9 j).toNatClampNeg) ∧ (v.1 9 j).toNatClampNeg < 256
      rw [q3, nI_clamp (by omega)]
      exact ⟨rfl, rfl, q2⟩
  obtain ⟨r, u2, v2, a1, a2, ⟨n2, a3⟩, a4, a5⟩ := text_L (k := k) fu 0 0 n (sI u1 17 5 0) (sI (sI v1 0 12 0) 0 15 1) (by omega) (by omega) (by unfold fu; omega) hT sI_eq (by rw [sI_k (by decide), sI_eq]; rfl) sI_eq ((hA1.w w1 w2).congr rfl rfl (funext fun j => sI_i (by decide)) (fun _ _ => rfl) (fun _ _ => rfl)) (hRest.fr w1.fc (w2.fm.tr fmg))
  have z : nI 0 = (0 : Int32) := rfl
  rw [z] at a1 a2
  refine ⟨r, sI u2 15 1 0, v2, ?_, ?_, ⟨n2, ?_⟩, ?_, ⟨0, by omega, sI_eq, a5, fun j hj => absurd hj (by omega)⟩, ?_, ?_⟩
  · unfold F_X6_text F_X5_readArchive
    rw [e1, bdV_s, a1, bdI_s]
  · unfold F_X7_text
    rw [f1, bdV_s]
    exact a2
  · exact a3.congr (sI_i (by decide)) (sI_i (by decide)) rfl (fun _ _ => rfl) (fun p hp => prC_ne (by omega))
  · obtain ⟨hK2, -⟩ := a4
    refine ⟨by rw [sI_i (by decide)]; exact hK2.1, ?_⟩
    rcases hK2.2 with z | ⟨z, n3, z2⟩
    · exact Or.inl z
    · exact Or.inr ⟨z, n3, z2.congr (sI_i (by decide)) (sI_i (by decide)) rfl (fun _ _ => rfl) (fun p hp => prC_ne (by omega))⟩
  · exact fun s hs => (a4.2.1 s hs).congr (funext fun j => sI_i (by omega)) rfl rfl rfl (fun _ _ => rfl)
  · exact fun k hk => by rw [sI_i (by decide)]; exact a4.2.2.1 k hk
