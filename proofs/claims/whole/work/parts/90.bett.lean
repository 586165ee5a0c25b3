/-! the reference weighs two choices -/
theorem lS_I {x y : Nat} (hx : x < 4611686018427387904) (hy : y < 4611686018427387904) : (lN x - lN y).toInt = (x : Int) - y := by
  rw [Int64.toInt_sub, pk_lT (by omega), pk_lT (by omega)]
  exact Int.bmod_eq_of_le (by omega) (by omega)
theorem lS_lt {x y : Nat} (hx : x < 4611686018427387904) (hy : y < 4611686018427387904) : (lg_cmp (lN x - lN y) (lN 0) < 0) ↔ x < y := by
  rw [lg_cmp_lt, Int64.lt_iff_toInt_lt, lS_I hx hy, pk_lT (by decide)]
  omega
theorem lS_ge {x y : Nat} (hx : x < 4611686018427387904) (hy : y < 4611686018427387904) : (0 ≤ lg_cmp (lN x - lN y) (lN 0)) ↔ y ≤ x := by
  rw [lg_cmp_ge, Int64.le_iff_toInt_le, lS_I hx hy, pk_lT (by decide)]
  omega
theorem lS_e {x y : Nat} (hx : x < 4611686018427387904) (hy : y < 4611686018427387904) : (lN x - lN y = lN 0) ↔ x = y := by
  rw [← Int64.toInt_inj, lS_I hx hy, pk_lT (by decide)]
  omega
theorem lS_eq {x y : Nat} (hx : x < 4611686018427387904) (hy : y < 4611686018427387904) : (lg_cmp (lN x - lN y) (lN 0) = 0) ↔ x = y := by
  rw [lg_cmp_eq, ← Int64.toInt_inj, lS_I hx hy, pk_lT (by decide)]
  omega
def sK (f : Nat → Nat) : Nat → Nat
  | 0 => 0
  | k + 1 => sK f k + f k
theorem sK_s (f : Nat → Nat) (k : Nat) : sK f (k + 1) = sK f k + f k := rfl
theorem rP_n {pk : List (Nat × Nat)} {k : Nat} (hk : pk.length ≤ k) : rP pk k = 0 := by unfold rP; rw [List.getElem?_eq_none hk]
theorem sK_p {pk : List (Nat × Nat)} (h : pkOk pk) (a b c : Nat) : sK (fun k => cnt a b c k * rP pk k) pk.length = prc pk a b c := by
  have h1 := h.1
  have h3 := h.2.1
  have e3 : pk.length = 1 ∨ pk.length = 2 ∨ pk.length = 3 := by omega
  unfold prc
  rcases e3 with e | e | e
  · rw [e, rP_n (pk := pk) (k := 1) (by omega), rP_n (pk := pk) (k := 2) (by omega)]
    show 0 + a * rP pk 0 = _
    omega
  · rw [e, rP_n (pk := pk) (k := 2) (by omega)]
    show 0 + a * rP pk 0 + b * rP pk 1 = _
    omega
  · rw [e]
    show 0 + a * rP pk 0 + b * rP pk 1 + c * rP pk 2 = _
    omega
theorem sK_n {pk : List (Nat × Nat)} (h : pkOk pk) {s a b c : Nat} (hr : Rch pk s a b c) : sK (fun k => cnt a b c k * 1) pk.length = a + b + c := by
  have h1 := h.1
  have h3 := h.2.1
  have e3 : pk.length = 1 ∨ pk.length = 2 ∨ pk.length = 3 := by omega
  rcases e3 with e | e | e
  · rw [e, hr.2.1 (by omega), hr.2.2 (by omega)]
    show 0 + a * 1 = _
    omega
  · rw [e, hr.2.2 (by omega)]
    show 0 + a * 1 + b * 1 = _
    omega
  · rw [e]
    show 0 + a * 1 + b * 1 + c * 1 = _
    omega
/-- counts in a row -/
def mC (J : Nat → Nat → Int64) (q a b c : Nat) : Prop := ∀ k, k < 3 → J q k = lN (cnt a b c k)
section
variable (P : Nat → Option rs_C) (n s : Nat) (I : Nat → Nat → Int32) (J : Nat → Nat → Int64) (R : Nat → Nat → Option Nat) (d : Nat) (Q : rs_H → Option Value → Prop)
theorem X12_so_p79 {i : Nat} (hi : i < 12) {pk : List (Nat × Nat)} (hp : pkOk pk) (hI : mPk I i pk) {a b c : Nat} (hC : mC J 79 a b c) : ∀ (m k : Nat), k + m = pk.length → (rs_X (d + 2) yX12_sumOf 6 [some (.ref 61), some (.int (nI i)), some (.ref 79), some (.int (nI 1)), some (.long (lN (sK (fun k => cnt a b c k * rP pk k) k))), none, some (.int (nI k))] [] (sk_w P n s I J R) Q ↔ Q (sk_w P n s I J R) (some (.long (lN (prc pk a b c))))) := by
  have h3 := hp.2.1
  intro m
  induction m with
  | zero =>
    intro k hk
    have : k = pk.length := by omega
    subst this
    rw [g_X12_sumOf_6]
    simp (disch := omega) only [g_X12_sumOf_8, g_X12_sumOf_9, g_X12_sumOf_10, g_X12_sumOf_13, lk_X12_sumOf, g_X12_sumOf_48, g_X12_sumOf_50, lk_X12_sumOf, XI, Nat.reduceAdd, Nat.reduceEqDiff, not_false_eq_true, nI_T1, nI_T0, true_and, and_true, WC, WV, WU, s_X12_packs, hI.1, nI_leS, Nat.le_refl, if_true, sK_p hp]
  | succ m ih =>
    intro k hk
    have e1 := (hI.2 k (by omega)).2
    have e2 := hC k (by omega)
    have e3 := rP_le hp k
    have h2 := ih (k + 1) (by omega)
    rw [sK_s] at h2
    rw [g_X12_sumOf_6]
    simp (disch := omega) only [g_X12_sumOf_8, g_X12_sumOf_9, g_X12_sumOf_10, g_X12_sumOf_13, g_X12_sumOf_16, g_X12_sumOf_18, g_X12_sumOf_19, g_X12_sumOf_21, g_X12_sumOf_22, g_X12_sumOf_23, g_X12_sumOf_26, g_X12_sumOf_27, g_X12_sumOf_28, g_X12_sumOf_30, g_X12_sumOf_33, g_X12_sumOf_36, g_X12_sumOf_37, g_X12_sumOf_38, g_X12_sumOf_39, g_X12_sumOf_40, g_X12_sumOf_42, g_X12_sumOf_45, lk_X12_sumOf, XI, Nat.reduceAdd, Nat.reduceEqDiff, not_false_eq_true, nI_T1, nI_T0, true_and, and_true, WC, WV, WU, s_X12_packs, hI.1, nI_leS, nI_cl, rs_in_t, e2, nI_10f, if_false, s_X12_priceOf, e1, nI_long, lN_mul, lN_add, nI_addS]
    rw [if_neg (by omega)]
    exact h2
theorem s_so_p79 {i : Nat} (hi : i < 12) {pk : List (Nat × Nat)} (hp : pkOk pk) (hI : mPk I i pk) {a b c : Nat} (hC : mC J 79 a b c) : rs_XM (d + 2) yX12_sumOf [.ref 61, .int (nI i), .ref 79, .int (nI 1)] (sk_w P n s I J R) Q ↔ Q (sk_w P n s I J R) (some (.long (lN (prc pk a b c)))) := by
  rw [em_X12_sumOf]
  simp (disch := omega) only [g_X12_sumOf_0, g_X12_sumOf_1, g_X12_sumOf_3, g_X12_sumOf_4, lk_X12_sumOf, XI, Nat.reduceAdd, Nat.reduceEqDiff, not_false_eq_true, nI_T1, nI_T0, true_and, and_true, WC, WV, WU]
  exact X12_so_p79 P n s I J R d Q hi hp hI hC pk.length 0 (Nat.zero_add _)
theorem X12_so_n79 {i : Nat} (hi : i < 12) {pk : List (Nat × Nat)} (hp : pkOk pk) (hI : mPk I i pk) {t a b c : Nat} (hr : Rch pk t a b c) (hC : mC J 79 a b c) : ∀ (m k : Nat), k + m = pk.length → (rs_X (d + 2) yX12_sumOf 6 [some (.ref 61), some (.int (nI i)), some (.ref 79), some (.int (nI 0)), some (.long (lN (sK (fun k => cnt a b c k * 1) k))), none, some (.int (nI k))] [] (sk_w P n s I J R) Q ↔ Q (sk_w P n s I J R) (some (.long (lN (a + b + c))))) := by
  have h3 := hp.2.1
  intro m
  induction m with
  | zero =>
    intro k hk
    have : k = pk.length := by omega
    subst this
    rw [g_X12_sumOf_6]
    simp (disch := omega) only [g_X12_sumOf_8, g_X12_sumOf_9, g_X12_sumOf_10, g_X12_sumOf_13, lk_X12_sumOf, g_X12_sumOf_48, g_X12_sumOf_50, lk_X12_sumOf, XI, Nat.reduceAdd, Nat.reduceEqDiff, not_false_eq_true, nI_T1, nI_T0, true_and, and_true, WC, WV, WU, s_X12_packs, hI.1, nI_leS, Nat.le_refl, if_true, sK_n hp hr]
  | succ m ih =>
    intro k hk
    have e2 := hC k (by omega)
    have h2 := ih (k + 1) (by omega)
    rw [sK_s] at h2
    rw [g_X12_sumOf_6]
    simp (disch := omega) only [g_X12_sumOf_8, g_X12_sumOf_9, g_X12_sumOf_10, g_X12_sumOf_13, g_X12_sumOf_16, g_X12_sumOf_18, g_X12_sumOf_19, g_X12_sumOf_21, g_X12_sumOf_22, g_X12_sumOf_23, g_X12_sumOf_26, g_X12_sumOf_27, g_X12_sumOf_28, g_X12_sumOf_30, g_X12_sumOf_33, g_X12_sumOf_36, g_X12_sumOf_37, g_X12_sumOf_38, g_X12_sumOf_39, g_X12_sumOf_40, g_X12_sumOf_42, g_X12_sumOf_45, lk_X12_sumOf, XI, Nat.reduceAdd, Nat.reduceEqDiff, not_false_eq_true, nI_T1, nI_T0, true_and, and_true, WC, WV, WU, s_X12_packs, hI.1, nI_leS, nI_cl, rs_in_t, e2, nI_00, if_true, nI_long, lN_mul, lN_add, nI_addS]
    rw [if_neg (by omega)]
    exact h2
theorem s_so_n79 {i : Nat} (hi : i < 12) {pk : List (Nat × Nat)} (hp : pkOk pk) (hI : mPk I i pk) {t a b c : Nat} (hr : Rch pk t a b c) (hC : mC J 79 a b c) : rs_XM (d + 2) yX12_sumOf [.ref 61, .int (nI i), .ref 79, .int (nI 0)] (sk_w P n s I J R) Q ↔ Q (sk_w P n s I J R) (some (.long (lN (a + b + c)))) := by
  rw [em_X12_sumOf]
  simp (disch := omega) only [g_X12_sumOf_0, g_X12_sumOf_1, g_X12_sumOf_3, g_X12_sumOf_4, lk_X12_sumOf, XI, Nat.reduceAdd, Nat.reduceEqDiff, not_false_eq_true, nI_T1, nI_T0, true_and, and_true, WC, WV, WU]
  exact X12_so_n79 P n s I J R d Q hi hp hI hr hC pk.length 0 (Nat.zero_add _)
theorem X12_so_p80 {i : Nat} (hi : i < 12) {pk : List (Nat × Nat)} (hp : pkOk pk) (hI : mPk I i pk) {a b c : Nat} (hC : mC J 80 a b c) : ∀ (m k : Nat), k + m = pk.length → (rs_X (d + 2) yX12_sumOf 6 [some (.ref 61), some (.int (nI i)), some (.ref 80), some (.int (nI 1)), some (.long (lN (sK (fun k => cnt a b c k * rP pk k) k))), none, some (.int (nI k))] [] (sk_w P n s I J R) Q ↔ Q (sk_w P n s I J R) (some (.long (lN (prc pk a b c))))) := by
  have h3 := hp.2.1
  intro m
  induction m with
  | zero =>
    intro k hk
    have : k = pk.length := by omega
    subst this
    rw [g_X12_sumOf_6]
    simp (disch := omega) only [g_X12_sumOf_8, g_X12_sumOf_9, g_X12_sumOf_10, g_X12_sumOf_13, lk_X12_sumOf, g_X12_sumOf_48, g_X12_sumOf_50, lk_X12_sumOf, XI, Nat.reduceAdd, Nat.reduceEqDiff, not_false_eq_true, nI_T1, nI_T0, true_and, and_true, WC, WV, WU, s_X12_packs, hI.1, nI_leS, Nat.le_refl, if_true, sK_p hp]
  | succ m ih =>
    intro k hk
    have e1 := (hI.2 k (by omega)).2
    have e2 := hC k (by omega)
    have e3 := rP_le hp k
    have h2 := ih (k + 1) (by omega)
    rw [sK_s] at h2
    rw [g_X12_sumOf_6]
    simp (disch := omega) only [g_X12_sumOf_8, g_X12_sumOf_9, g_X12_sumOf_10, g_X12_sumOf_13, g_X12_sumOf_16, g_X12_sumOf_18, g_X12_sumOf_19, g_X12_sumOf_21, g_X12_sumOf_22, g_X12_sumOf_23, g_X12_sumOf_26, g_X12_sumOf_27, g_X12_sumOf_28, g_X12_sumOf_30, g_X12_sumOf_33, g_X12_sumOf_36, g_X12_sumOf_37, g_X12_sumOf_38, g_X12_sumOf_39, g_X12_sumOf_40, g_X12_sumOf_42, g_X12_sumOf_45, lk_X12_sumOf, XI, Nat.reduceAdd, Nat.reduceEqDiff, not_false_eq_true, nI_T1, nI_T0, true_and, and_true, WC, WV, WU, s_X12_packs, hI.1, nI_leS, nI_cl, rs_in_t, e2, nI_10f, if_false, s_X12_priceOf, e1, nI_long, lN_mul, lN_add, nI_addS]
    rw [if_neg (by omega)]
    exact h2
theorem s_so_p80 {i : Nat} (hi : i < 12) {pk : List (Nat × Nat)} (hp : pkOk pk) (hI : mPk I i pk) {a b c : Nat} (hC : mC J 80 a b c) : rs_XM (d + 2) yX12_sumOf [.ref 61, .int (nI i), .ref 80, .int (nI 1)] (sk_w P n s I J R) Q ↔ Q (sk_w P n s I J R) (some (.long (lN (prc pk a b c)))) := by
  rw [em_X12_sumOf]
  simp (disch := omega) only [g_X12_sumOf_0, g_X12_sumOf_1, g_X12_sumOf_3, g_X12_sumOf_4, lk_X12_sumOf, XI, Nat.reduceAdd, Nat.reduceEqDiff, not_false_eq_true, nI_T1, nI_T0, true_and, and_true, WC, WV, WU]
  exact X12_so_p80 P n s I J R d Q hi hp hI hC pk.length 0 (Nat.zero_add _)
theorem X12_so_n80 {i : Nat} (hi : i < 12) {pk : List (Nat × Nat)} (hp : pkOk pk) (hI : mPk I i pk) {t a b c : Nat} (hr : Rch pk t a b c) (hC : mC J 80 a b c) : ∀ (m k : Nat), k + m = pk.length → (rs_X (d + 2) yX12_sumOf 6 [some (.ref 61), some (.int (nI i)), some (.ref 80), some (.int (nI 0)), some (.long (lN (sK (fun k => cnt a b c k * 1) k))), none, some (.int (nI k))] [] (sk_w P n s I J R) Q ↔ Q (sk_w P n s I J R) (some (.long (lN (a + b + c))))) := by
  have h3 := hp.2.1
  intro m
  induction m with
  | zero =>
    intro k hk
    have : k = pk.length := by omega
    subst this
    rw [g_X12_sumOf_6]
    simp (disch := omega) only [g_X12_sumOf_8, g_X12_sumOf_9, g_X12_sumOf_10, g_X12_sumOf_13, lk_X12_sumOf, g_X12_sumOf_48, g_X12_sumOf_50, lk_X12_sumOf, XI, Nat.reduceAdd, Nat.reduceEqDiff, not_false_eq_true, nI_T1, nI_T0, true_and, and_true, WC, WV, WU, s_X12_packs, hI.1, nI_leS, Nat.le_refl, if_true, sK_n hp hr]
  | succ m ih =>
    intro k hk
    have e2 := hC k (by omega)
    have h2 := ih (k + 1) (by omega)
    rw [sK_s] at h2
    rw [g_X12_sumOf_6]
    simp (disch := omega) only [g_X12_sumOf_8, g_X12_sumOf_9, g_X12_sumOf_10, g_X12_sumOf_13, g_X12_sumOf_16, g_X12_sumOf_18, g_X12_sumOf_19, g_X12_sumOf_21, g_X12_sumOf_22, g_X12_sumOf_23, g_X12_sumOf_26, g_X12_sumOf_27, g_X12_sumOf_28, g_X12_sumOf_30, g_X12_sumOf_33, g_X12_sumOf_36, g_X12_sumOf_37, g_X12_sumOf_38, g_X12_sumOf_39, g_X12_sumOf_40, g_X12_sumOf_42, g_X12_sumOf_45, lk_X12_sumOf, XI, Nat.reduceAdd, Nat.reduceEqDiff, not_false_eq_true, nI_T1, nI_T0, true_and, and_true, WC, WV, WU, s_X12_packs, hI.1, nI_leS, nI_cl, rs_in_t, e2, nI_00, if_true, nI_long, lN_mul, lN_add, nI_addS]
    rw [if_neg (by omega)]
    exact h2
theorem s_so_n80 {i : Nat} (hi : i < 12) {pk : List (Nat × Nat)} (hp : pkOk pk) (hI : mPk I i pk) {t a b c : Nat} (hr : Rch pk t a b c) (hC : mC J 80 a b c) : rs_XM (d + 2) yX12_sumOf [.ref 61, .int (nI i), .ref 80, .int (nI 0)] (sk_w P n s I J R) Q ↔ Q (sk_w P n s I J R) (some (.long (lN (a + b + c)))) := by
  rw [em_X12_sumOf]
  simp (disch := omega) only [g_X12_sumOf_0, g_X12_sumOf_1, g_X12_sumOf_3, g_X12_sumOf_4, lk_X12_sumOf, XI, Nat.reduceAdd, Nat.reduceEqDiff, not_false_eq_true, nI_T1, nI_T0, true_and, and_true, WC, WV, WU]
  exact X12_so_n80 P n s I J R d Q hi hp hI hr hC pk.length 0 (Nat.zero_add _)
theorem s_isBetter {i : Nat} (hi : i < 12) {pk : List (Nat × Nat)} (hp : pkOk pk) (hI : mPk I i pk) {t a b c x y z : Nat} (ht : t ≤ 8191) (h1 : Rch pk t a b c) (h2 : Rch pk t x y z) (c1 : mC J 79 a b c) (c2 : mC J 80 x y z) : rs_XM (d + 3) yX12_isBetter [.ref 61, .int (nI i)] (sk_w P n s I J R) Q ↔ Q (sk_w P n s I J R) (some (.int (rs_b (wgt pk x y z < wgt pk a b c)))) := by
  have n1 := Rch_n hp h1
  have n2 := Rch_n hp h2
  have p1 := prc_le hp h1
  have p2 := prc_le hp h2
  have d1 := enc_d pk (c := c) (show a ≤ 8191 by omega) (show b ≤ 8191 by omega)
  have d2 := enc_d pk (c := z) (show x ≤ 8191 by omega) (show y ≤ 8191 by omega)
  have a0 : J 79 0 = lN a := c1 0 (by decide)
  have a1 : J 79 1 = lN b := c1 1 (by decide)
  have b0 : J 80 0 = lN x := c2 0 (by decide)
  have b1 : J 80 1 = lN y := c2 1 (by decide)
  rw [em_X12_isBetter]
  simp (disch := omega) only [K_X12_isBetter, lk_X12_isBetter, XI, Nat.reduceAdd, Nat.reduceEqDiff, not_false_eq_true, nI_T1, nI_T0, true_and, and_true, WC, WV, WU, s_so_p79 P n s I J R _ _ hi hp hI c1, s_so_p80 P n s I J R _ _ hi hp hI c2, s_so_n79 P n s I J R _ _ hi hp hI h1 c1, s_so_n80 P n s I J R _ _ hi hp hI h2 c2, nI_cl, rs_in_t, a0, a1, b0, b1, lS_eq, lS_e, lS_lt, lS_ge, lg_cmp_eq, lg_cmp_le, lN_inj, pk_lLE]
  by_cases lt : wgt pk x y z < wgt pk a b c
  · rw [rs_b_t lt]
    repeat' split
    all_goals first | exact Iff.rfl | (exfalso; omega)
  · rw [rs_b_f lt]
    repeat' split
    all_goals first | exact Iff.rfl | (exfalso; omega)
theorem s_isSooner {i : Nat} (hi : i < 12) {pk : List (Nat × Nat)} (hp : pkOk pk) (hI : mPk I i pk) {a b : Nat} (ha : a < pk.length) (hb : b < pk.length) : rs_XM (d + 2) yX12_isSooner [.ref 61, .int (nI i), .int (nI a), .int (nI b)] (sk_w P n s I J R) Q ↔ Q (sk_w P n s I J R) (some (.int (rs_b (sn pk a b = true)))) := by
  have h3 := hp.2.1
  have ea := hI.2 a ha
  have eb := hI.2 b hb
  have ra := rP_le hp a
  have rb := rP_le hp b
  obtain ⟨za1, za2⟩ := zP_1 hp ha
  obtain ⟨zb1, zb2⟩ := zP_1 hp hb
  have m1 : rP pk a * zP pk b ≤ 999 * 2000 := Nat.mul_le_mul ra zb2
  have m2 : rP pk b * zP pk a ≤ 999 * 2000 := Nat.mul_le_mul rb za2
  rw [em_X12_isSooner]
  simp (disch := omega) only [K_X12_isSooner, lk_X12_isSooner, XI, Nat.reduceAdd, Nat.reduceEqDiff, not_false_eq_true, nI_T1, nI_T0, true_and, and_true, WC, WV, WU, s_X12_priceOf, s_X12_sizeOf, ea.1, ea.2, eb.1, eb.2, nI_long, lN_mul, lS_eq, lS_lt, lS_ge, nI_eqS, nI_leS]
  unfold sn
  by_cases q : rP pk a * zP pk b = rP pk b * zP pk a
  · simp only [q, if_true]
    by_cases q2 : zP pk a = zP pk b
    · simp only [q2, if_true]
      by_cases q3 : b ≤ a
      · rw [if_pos q3, rs_b_f (fun y => by rw [decide_eq_true_eq] at y; omega)]
      · rw [if_neg q3, rs_b_t (by rw [decide_eq_true_eq]; omega)]
    · simp only [q2, if_false]
      by_cases q3 : zP pk a ≤ zP pk b
      · rw [if_pos q3, rs_b_f (fun y => by rw [decide_eq_true_eq] at y; omega)]
      · rw [if_neg q3, rs_b_t (by rw [decide_eq_true_eq]; omega)]
  · simp only [q, if_false]
    by_cases q3 : rP pk b * zP pk a ≤ rP pk a * zP pk b
    · rw [if_pos q3, rs_b_f (fun y => by rw [decide_eq_true_eq] at y; omega)]
    · rw [if_neg q3, rs_b_t (by rw [decide_eq_true_eq]; omega)]
end
