/-! bits of ints; what the class's ingredients, items and substitutions answer -/
theorem bt_sm : ∀ k, k < 32 → ((nI k &&& 31).toBitVec.smod 32).toNat = k := by decide +kernel
theorem bt_shr {a k : Nat} (ha : a < 2147483648) (hk : k < 32) : nI a >>> (nI k &&& 31) = nI (a / 2 ^ k) := pk_shrN ha _ k (bt_sm k hk)
theorem bt_shl {a k : Nat} (hk : k < 32) (h : a * 2 ^ k < 4294967296) : nI a <<< (nI k &&& 31) = nI (a * 2 ^ k) := pk_shlN _ k (bt_sm k hk) h
theorem bt_and1 {a : Nat} (ha : a < 2147483648) : nI a &&& nI 1 = nI (a % 2) := pk_andN (n := a) (show a < 2 ^ 32 by omega) 1 rfl
theorem bt_tn {a : Nat} (h : a < 4294967296) : (nI a).toBitVec.toNat = a := by
  show (BitVec.ofNat 32 a).toNat = a
  rw [BitVec.toNat_ofNat, Nat.mod_eq_of_lt h]
theorem bt_inj {a b : Int32} (h : a.toBitVec.toNat = b.toBitVec.toNat) : a = b := Int32.toBitVec_inj.mp (BitVec.eq_of_toNat_eq h)
theorem bt_or {a b : Nat} (ha : a < 4294967296) (hb : b < 4294967296) : nI a ||| nI b = nI (a ||| b) := by
  apply bt_inj
  rw [Int32.toBitVec_or, BitVec.toNat_or, bt_tn ha, bt_tn hb, bt_tn (Nat.or_lt_two_pow (n := 32) ha hb)]
theorem bt_and {a b : Nat} (ha : a < 4294967296) (hb : b < 4294967296) : nI a &&& nI b = nI (a &&& b) := by
  apply bt_inj
  rw [Int32.toBitVec_and, BitVec.toNat_and, bt_tn ha, bt_tn hb, bt_tn (Nat.and_lt_two_pow (n := 32) a hb)]
theorem bt_tb (a k : Nat) : (a / 2 ^ k % 2 = 0) ↔ ¬ a.testBit k = true := by
  rw [Nat.testBit_eq_decide_div_mod_eq, decide_eq_true_eq]
  omega
theorem s_X11_isSet (d : Nat) (w : rs_H) (Q : rs_H → Option Value → Prop) {a k : Nat} (ha : a < 2147483648) (hk : k < 32) : rs_XM d yX11_isSet [.int (nI a), .int (nI k)] w Q ↔ Q w (some (.int (rs_b (a.testBit k = true)))) := by
  have h1 : a / 2 ^ k ≤ a := Nat.div_le_self _ _
  have h2 : a / 2 ^ k % 2 < 2 := Nat.mod_lt _ (by decide)
  rw [em_X11_isSet]
  simp (disch := omega) only [K_X11_isSet, lk_X11_isSet, XI, Nat.reduceAdd, Nat.reduceEqDiff, not_false_eq_true, nI_T1, nI_T0, true_and, and_true, bt_shr ha hk, bt_and1 (show a / 2 ^ k < 2147483648 by omega), nI_eq0S, bt_tb, nI_11, or_true, true_or]
  by_cases h : a.testBit k = true
  · rw [if_neg (fun z => z h), rs_b_t h]
  · rw [if_pos h, rs_b_f h]
/-- the grams of a unit -/
def Ig.gr (g : Ig) (u : Nat) : Option (Nat × Nat) := if u = 0 then some (1, 1) else if u = 1 then g.de else g.we
theorem isF_11 : isF (1, 1) := by unfold isF; decide
theorem isF_01 : isF (0, 1) := by unfold isF; decide
theorem Ig.gr_ok {g : Ig} (h : g.ok) (u : Nat) : okO (g.gr u) := by
  unfold Ig.gr
  split
  · exact okO_s isF_11
  · split
    · exact h.1
    · exact h.2.1
section
variable {P : Nat → Option rs_C} {b : Nat} (n s : Nat) (I : Nat → Nat → Int32) (J : Nat → Nat → Int64) (R : Nat → Nat → Option Nat) (d : Nat) (Q : rs_H → Option Value → Prop)
theorem g_gramsOf {q : Nat} {g : Ig} (h : cIg P b q g) {u : Nat} (hu : u ≤ 2) : rs_XM d yX1_gramsOf [.ref q, .int (nI u)] (sk_w P n s I J R) Q ↔ Q (sk_w P n s I J R) (some (.long (pkO (g.gr u)))) := by
  obtain ⟨V, a, c, Ua, Uc, h1, h2, h3, h4, v0, v1, v2, v3, v4, v5, v6, v7, h5⟩ := h
  rw [em_X1_gramsOf]
  unfold Ig.gr
  simp (disch := omega) only [K_X1_gramsOf, lk_X1_gramsOf, XI, Nat.reduceAdd, Nat.reduceEqDiff, not_false_eq_true, nI_T1, nI_T0, true_and, and_true, WC, WV, WU, sk_cP n s I J R h1, v0, v1, nI_eqS]
  by_cases e0 : u = 0
  · simp only [e0, if_true]; exact Iff.rfl
  · by_cases e1 : u = 1
    · subst e1; simp only [e0, if_true, if_false]
    · have e2 : u = 2 := by omega
      subst e2
      simp only [e0, e1, if_true, if_false]
theorem g_concerns {q : Nat} {g : Ig} (h : cIg P b q g) (hg : g.ok) {a : Nat} (ha : a < 32) : rs_XM (d + 1) yX1_concerns [.ref q, .int (nI a)] (sk_w P n s I J R) Q ↔ Q (sk_w P n s I J R) (some (.int (rs_b ((g.con ||| g.tra).testBit a = true)))) := by
  obtain ⟨V, a', c, Ua, Uc, h1, h2, h3, h4, v0, v1, v2, v3, v4, v5, v6, v7, h5⟩ := h
  have hc := hg.2.2.1
  have ht := hg.2.2.2.1
  have ho : g.con ||| g.tra < 2 ^ 8 := Nat.or_lt_two_pow (by omega) (by omega)
  rw [em_X1_concerns]
  simp (disch := omega) only [K_X1_concerns, lk_X1_concerns, XI, Nat.reduceAdd, Nat.reduceEqDiff, not_false_eq_true, nI_T1, nI_T0, true_and, and_true, WC, WV, WU, sk_cP n s I J R h1, v2, v3, bt_or, s_X11_isSet, rs_b_ok]
theorem max_sub {c k : Nat} (hc : c < 1073741824) (hk : k < 1073741824) : (if nI 0 < nI c - nI k then nI c - nI k else nI 0) = nI (c - k) := by
  by_cases h : k ≤ c
  · rw [nI_subS h]
    by_cases h0 : c - k = 0
    · rw [h0, if_neg (by rw [nI_ltS (by omega) (by omega)]; omega)]
    · rw [if_pos (by rw [nI_ltS (by omega) (by omega)]; omega)]
  · have e := pk_sneg (a := c) (b := k) hk (by omega)
    rw [if_neg (fun z => Int32.lt_irrefl (Int32.lt_trans z (by rw [nI_0]; exact e))), show c - k = 0 by omega]
/-- what is needed, rounded up to whole grams -/
def up1 (q : Nat × Nat) : Nat := (q.1 + q.2 - 1) / q.2
theorem up1_le {q : Nat × Nat} (hq : isF q) : up1 q ≤ q.1 := by
  have h2 := hq.2.1
  unfold up1
  rcases Nat.eq_zero_or_pos q.1 with e | e
  · rw [e, Nat.div_eq_of_lt (by omega)]
    exact Nat.zero_le _
  · refine Nat.le_of_lt_succ ((Nat.div_lt_iff_lt_mul h2).mpr ?_)
    have h4 : q.1.succ * q.2 = q.1 * q.2 + q.2 := Nat.succ_mul _ _
    have h3 : q.1 * 1 ≤ q.1 * q.2 := Nat.mul_le_mul_left _ h2
    omega
theorem g_lack {q : Nat} {g : Ig} (h : cIg P b q g) (hg : g.ok) {f : Nat × Nat} (hf : isF f) : rs_XM (d + 2) yX1_lack [.ref q, .long (pkF f)] (sk_w P n s I J R) Q ↔ Q (sk_w P n s I J R) (some (.int (nI (up1 f - g.stk)))) := by
  obtain ⟨V, a', c, Ua, Uc, h1, h2, h3, h4, v0, v1, v2, v3, v4, v5, v6, v7, h5⟩ := h
  have hs := hg.2.2.2.2.1
  have hu := up1_le hf
  have h9 := hf.1
  rw [em_X1_lack]
  simp (disch := omega) only [K_X1_lack, lk_X1_lack, XI, Nat.reduceAdd, Nat.reduceEqDiff, not_false_eq_true, nI_T1, nI_T0, true_and, and_true, WC, WV, WU, sk_cP n s I J R h1, v4, s_X0_roundedUp _ _ _ hf]
  rw [show (f.1 + f.2 - 1) / f.2 = up1 f from rfl, max_sub (by omega) (by omega)]
theorem g_hasPacksFor {q : Nat} {g : Ig} (h : cIg P b q g) (hg : g.ok) {l : Nat} (hl : l < 2147483648) : rs_XM d yX1_hasPacksFor [.ref q, .int (nI l)] (sk_w P n s I J R) Q ↔ Q (sk_w P n s I J R) (some (.int (rs_b (0 < g.pk.length ∧ l ≤ 5000)))) := by
  obtain ⟨V, a', c, Ua, Uc, h1, h2, h3, h4, v0, v1, v2, v3, v4, v5, v6, v7, h5⟩ := h
  have hs := hg.2.2.2.2.2.1
  rw [em_X1_hasPacksFor]
  simp (disch := omega) only [K_X1_hasPacksFor, lk_X1_hasPacksFor, XI, Nat.reduceAdd, Nat.reduceEqDiff, not_false_eq_true, nI_T1, nI_T0, true_and, and_true, WC, WV, WU, sk_cP n s I J R h1, v5, nI_le0S, nI_ltS, nI_leS]
  by_cases e0 : g.pk.length = 0
  · rw [if_pos e0, rs_b_f (by omega)]
  · rw [if_neg e0]
    by_cases e1 : l ≤ 5000
    · rw [if_neg (by omega), rs_b_t (by omega)]
    · rw [if_pos (by omega), rs_b_f (by omega)]
theorem g_packCount {q : Nat} {g : Ig} (h : cIg P b q g) : rs_XM d yX1_packCount [.ref q] (sk_w P n s I J R) Q ↔ Q (sk_w P n s I J R) (some (.int (nI g.pk.length))) := by
  obtain ⟨V, a', c, Ua, Uc, h1, h2, h3, h4, v0, v1, v2, v3, v4, v5, v6, v7, h5⟩ := h
  rw [em_X1_packCount]
  simp (disch := omega) only [K_X1_packCount, lk_X1_packCount, XI, Nat.reduceAdd, Nat.reduceEqDiff, not_false_eq_true, nI_T1, nI_T0, true_and, and_true, WC, WV, WU, sk_cP n s I J R h1, v5]
theorem g_sizeAt {q : Nat} {g : Ig} (h : cIg P b q g) {k : Nat} (hk : k < 3) {p : Nat × Nat} (hp : g.pk[k]? = some p) : rs_XM d yX1_sizeAt [.ref q, .int (nI k)] (sk_w P n s I J R) Q ↔ Q (sk_w P n s I J R) (some (.int (nI p.1))) := by
  obtain ⟨V, a', c, Ua, Uc, h1, h2, h3, h4, v0, v1, v2, v3, v4, v5, v6, v7, h5⟩ := h
  rw [em_X1_sizeAt]
  simp (disch := omega) only [K_X1_sizeAt, lk_X1_sizeAt, XI, Nat.reduceAdd, Nat.reduceEqDiff, not_false_eq_true, nI_T1, nI_T0, true_and, and_true, WC, WV, WU, sk_cP n s I J R h1, sk_cP n s I J R h2, v6, nI_lt0S, nI_leS, nI_cl, rs_in_t, (h5 k p hp).1, if_false]
  rw [if_neg (by omega)]
theorem g_priceAt {q : Nat} {g : Ig} (h : cIg P b q g) {k : Nat} (hk : k < 3) {p : Nat × Nat} (hp : g.pk[k]? = some p) : rs_XM d yX1_priceAt [.ref q, .int (nI k)] (sk_w P n s I J R) Q ↔ Q (sk_w P n s I J R) (some (.int (nI p.2))) := by
  obtain ⟨V, a', c, Ua, Uc, h1, h2, h3, h4, v0, v1, v2, v3, v4, v5, v6, v7, h5⟩ := h
  rw [em_X1_priceAt]
  simp (disch := omega) only [K_X1_priceAt, lk_X1_priceAt, XI, Nat.reduceAdd, Nat.reduceEqDiff, not_false_eq_true, nI_T1, nI_T0, true_and, and_true, WC, WV, WU, sk_cP n s I J R h1, sk_cP n s I J R h3, v7, nI_lt0S, nI_leS, nI_cl, rs_in_t, (h5 k p hp).2, if_false]
  rw [if_neg (by omega)]
theorem g_isOfRecipe {q : Nat} {t : It} (h : cIt P b q t) (ht : t.ok) : rs_XM d yX2_isOfRecipe [.ref q] (sk_w P n s I J R) Q ↔ Q (sk_w P n s I J R) (some (.int (rs_b (12 ≤ t.so)))) := by
  obtain ⟨V, h1, v0, v1, v2⟩ := h
  have hs := ht.2.2.2
  rw [em_X2_isOfRecipe]
  simp (disch := omega) only [K_X2_isOfRecipe, lk_X2_isOfRecipe, XI, Nat.reduceAdd, Nat.reduceEqDiff, not_false_eq_true, nI_T1, nI_T0, true_and, and_true, WC, WV, WU, sk_cP n s I J R h1, v2, nI_ltS]
  by_cases e : t.so < 12
  · rw [if_pos e, rs_b_f (by omega)]
  · rw [if_neg e, rs_b_t (by omega)]
theorem g_innerRecipe {q : Nat} {t : It} (h : cIt P b q t) (ht : 12 ≤ t.so) : rs_XM d yX2_innerRecipe [.ref q] (sk_w P n s I J R) Q ↔ Q (sk_w P n s I J R) (some (.int (nI (t.so - 12)))) := by
  obtain ⟨V, h1, v0, v1, v2⟩ := h
  rw [em_X2_innerRecipe]
  simp (disch := omega) only [K_X2_innerRecipe, lk_X2_innerRecipe, XI, Nat.reduceAdd, Nat.reduceEqDiff, not_false_eq_true, nI_T1, nI_T0, true_and, and_true, WC, WV, WU, sk_cP n s I J R h1, v2, nI_subS]
/-- the factor of an inner recipe -/
def fOf (t : It) (f : Nat × Nat) (Z : Rc) : Option (Nat × Nat) := odiv (omul (some t.am) (some f)) (some Z.yl)
theorem g_factorOf {q z r : Nat} {t : It} {Z : Rc} (h : cIt P b q t) (hz : cRc P b z r Z) (ht : t.ok) (hZ : Z.ok) {f : Nat × Nat} (hf : isF f) : rs_XM (d + 2) yX3_factorOf [.ref q, .long (pkF f), .ref z] (sk_w P n s I J R) Q ↔ Q (sk_w P n s I J R) (some (.long (pkO (fOf t f Z)))) := by
  obtain ⟨V, h1, v0, v1, v2⟩ := h
  obtain ⟨U, i, X, g1, g2, u0, u1, u2, u3, u4, g3, g4⟩ := hz
  have o1 : okO (omul (some t.am) (some f)) := fun q e => fr_isF (f_pos ht.1.2.1 hf.2.1) e
  rw [em_X3_factorOf]
  simp (disch := omega) only [K_X3_factorOf, lk_X3_factorOf, XI, Nat.reduceAdd, Nat.reduceEqDiff, not_false_eq_true, nI_T1, nI_T0, true_and, and_true, WC, WV, WU, sk_cP n s I J R h1, sk_cP n s I J R g1, v0, u2]
  simp (disch := omega) only [K_X3_factorOf, lk_X3_factorOf, XI, Nat.reduceAdd, Nat.reduceEqDiff, not_false_eq_true, nI_T1, nI_T0, true_and, and_true, WC, WV, WU, ← pkO_s, s_X0_product _ _ _ (okO_s ht.1) (okO_s hf), s_X0_quotient _ _ _ o1 (okO_s hZ.2.2.2.1) (fun q e => by cases e; exact hZ.2.2.2.2.1), sk_cP n s I J R g1, u2]
  exact Iff.rfl
end
