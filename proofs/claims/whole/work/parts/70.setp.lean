/-! both sides' programs for sets -/
theorem pow_lt8 {k : Nat} (h : k < 8) : 2 ^ k < 256 := Nat.pow_lt_pow_right (n := 8) (by decide) h
theorem pow_lt12 {k : Nat} (h : k < 12) : 2 ^ k < 4096 := Nat.pow_lt_pow_right (n := 12) (by decide) h
theorem or_lt8 {a b : Nat} (ha : a < 256) (hb : b < 256) : a ||| b < 256 := Nat.or_lt_two_pow (n := 8) ha hb
theorem or_lt12 {a b : Nat} (ha : a < 4096) (hb : b < 4096) : a ||| b < 4096 := Nat.or_lt_two_pow (n := 12) ha hb
section
variable (P : Nat → Option rs_C) (n s : Nat) (I : Nat → Nat → Int32) (J : Nat → Nat → Int64) (R : Nat → Nat → Option Nat) (d : Nat) (Q : rs_H → Option Value → Prop)
theorem X5_recipeSet_l {b x i : Nat} {Z : Rc} (hZ : Z.ok) {U : Nat → Value} (hi : cP P b i (16, 6, U)) (un : ∀ k, k < 6 → Z.its[k]? = none → U k = .null) (us : ∀ k t, k < 6 → Z.its[k]? = some t → ∃ x, U k = .ref x ∧ cIt P b x t) : ∀ (m k : Nat) (z5 : Option Value), k + m = 6 → (rs_X (d + 1) yX5_recipeSet 13 [some (.ref x), some (.int (nI (dK Z.its k))), some (.ref i), some (.int (nI 6)), some (.int (nI k)), z5] [] (sk_w P n s I J R) Q ↔ Q (sk_w P n s I J R) (some (.int (nI (dK Z.its 6))))) := by
  intro m
  induction m with
  | zero =>
    intro k z5 hk
    have : k = 6 := by omega
    subst this
    rw [g_X5_recipeSet_13]
    simp (disch := omega) only [g_X5_recipeSet_15, g_X5_recipeSet_16, lk_X5_recipeSet, g_X5_recipeSet_54, g_X5_recipeSet_55, lk_X5_recipeSet, XI, Nat.reduceAdd, Nat.reduceEqDiff, not_false_eq_true, nI_T1, nI_T0, true_and, and_true, WC, WV, WU, nI_leS, Nat.le_refl, if_true]
  | succ m ih =>
    intro k z5 hk
    have hb := dK_le hZ k
    rw [g_X5_recipeSet_13]
    cases hs : Z.its[k]? with
    | none =>
      have h2 := ih (k + 1) (some .null) (by omega)
      rw [dK_s, hs] at h2
      simp (disch := omega) only [g_X5_recipeSet_15, g_X5_recipeSet_16, g_X5_recipeSet_19, g_X5_recipeSet_20, g_X5_recipeSet_22, g_X5_recipeSet_23, g_X5_recipeSet_25, g_X5_recipeSet_27, g_X5_recipeSet_30, g_X5_recipeSet_32, g_X5_recipeSet_35, g_X5_recipeSet_38, g_X5_recipeSet_39, g_X5_recipeSet_40, g_X5_recipeSet_42, g_X5_recipeSet_45, g_X5_recipeSet_46, g_X5_recipeSet_47, g_X5_recipeSet_48, g_X5_recipeSet_51, lk_X5_recipeSet, XI, Nat.reduceAdd, Nat.reduceEqDiff, not_false_eq_true, nI_T1, nI_T0, true_and, and_true, WC, WV, WU, nI_leS, sk_cP n s I J R hi, nI_cl, rs_in_t, un k (by omega) hs, nI_addS]
      rw [if_neg (by omega)]
      exact h2
    | some t =>
      obtain ⟨y, hy, cy⟩ := us k t (by omega) hs
      have ht := hZ.2.2.1 k t hs
      have hso := ht.2.2.2
      obtain ⟨Vt, c1, v0, v1, v2⟩ := id cy
      have h2 := ih (k + 1) (some (.ref y)) (by omega)
      rw [dK_s, hs] at h2
      dsimp only at h2
      by_cases e : 12 ≤ t.so
      · rw [if_pos e] at h2
        have ep := pow_lt8 (show t.so - 12 < 8 by omega)
        simp (disch := omega) only [g_X5_recipeSet_15, g_X5_recipeSet_16, g_X5_recipeSet_19, g_X5_recipeSet_20, g_X5_recipeSet_22, g_X5_recipeSet_23, g_X5_recipeSet_25, g_X5_recipeSet_27, g_X5_recipeSet_30, g_X5_recipeSet_32, g_X5_recipeSet_35, g_X5_recipeSet_38, g_X5_recipeSet_39, g_X5_recipeSet_40, g_X5_recipeSet_42, g_X5_recipeSet_45, g_X5_recipeSet_46, g_X5_recipeSet_47, g_X5_recipeSet_48, g_X5_recipeSet_51, lk_X5_recipeSet, XI, Nat.reduceAdd, Nat.reduceEqDiff, not_false_eq_true, nI_T1, nI_T0, true_and, and_true, WC, WV, WU, rs_b_0, rs_b_ok2, true_or, or_true, Classical.not_not, not_true_eq_false, if_true, if_false, reduceCtorEq, nI_leS, sk_cP n s I J R hi, nI_cl, rs_in_t, hy, k_It P n s I J R cy, g_isOfRecipe n s I J R _ _ cy ht, e, g_innerRecipe n s I J R _ _ cy e, bt_shl, Nat.one_mul, bt_or, nI_addS]
        rw [if_neg (by omega)]
        exact h2
      · rw [if_neg e] at h2
        have ep := pow_lt12 (show t.so < 12 by omega)
        simp (disch := omega) only [g_X5_recipeSet_15, g_X5_recipeSet_16, g_X5_recipeSet_19, g_X5_recipeSet_20, g_X5_recipeSet_22, g_X5_recipeSet_23, g_X5_recipeSet_25, g_X5_recipeSet_27, g_X5_recipeSet_30, g_X5_recipeSet_32, g_X5_recipeSet_35, g_X5_recipeSet_38, g_X5_recipeSet_39, g_X5_recipeSet_40, g_X5_recipeSet_42, g_X5_recipeSet_45, g_X5_recipeSet_46, g_X5_recipeSet_47, g_X5_recipeSet_48, g_X5_recipeSet_51, lk_X5_recipeSet, XI, Nat.reduceAdd, Nat.reduceEqDiff, not_false_eq_true, nI_T1, nI_T0, true_and, and_true, WC, WV, WU, rs_b_0, rs_b_ok2, true_or, or_true, Classical.not_not, not_true_eq_false, if_true, if_false, reduceCtorEq, nI_leS, sk_cP n s I J R hi, sk_cP n s I J R c1, v2, nI_cl, rs_in_t, hy, k_It P n s I J R cy, g_isOfRecipe n s I J R _ _ cy ht, e, bt_shl, Nat.one_mul, bt_or, nI_addS]
        rw [if_neg (by omega)]
        exact h2
theorem s_recipeSet5 {b x r : Nat} {Z : Rc} (hx : cRc P b x r Z) (hZ : Z.ok) : rs_XM (d + 1) yX5_recipeSet [.ref x] (sk_w P n s I J R) Q ↔ Q (sk_w P n s I J R) (some (.int (nI (dK Z.its 6)))) := by
  obtain ⟨V, i, U, h1, h2, v0, v1, v2, v3, v4, un, us⟩ := hx
  rw [em_X5_recipeSet]
  simp (disch := omega) only [g_X5_recipeSet_0, g_X5_recipeSet_1, g_X5_recipeSet_2, g_X5_recipeSet_3, g_X5_recipeSet_6, g_X5_recipeSet_7, g_X5_recipeSet_8, g_X5_recipeSet_9, g_X5_recipeSet_10, g_X5_recipeSet_11, lk_X5_recipeSet, XI, Nat.reduceAdd, Nat.reduceEqDiff, not_false_eq_true, nI_T1, nI_T0, true_and, and_true, WC, WV, WU, sk_cP n s I J R h1, sk_cP n s I J R h2, v1]
  exact X5_recipeSet_l P n s I J R d Q hZ h2 un us (x := x) 6 0 none rfl
theorem X5_ingredientSet_l {b x i : Nat} {Z : Rc} (hZ : Z.ok) {U : Nat → Value} (hi : cP P b i (16, 6, U)) (un : ∀ k, k < 6 → Z.its[k]? = none → U k = .null) (us : ∀ k t, k < 6 → Z.its[k]? = some t → ∃ x, U k = .ref x ∧ cIt P b x t) : ∀ (m k : Nat) (z5 : Option Value), k + m = 6 → (rs_X (d + 1) yX5_ingredientSet 13 [some (.ref x), some (.int (nI (iK Z.its k))), some (.ref i), some (.int (nI 6)), some (.int (nI k)), z5] [] (sk_w P n s I J R) Q ↔ Q (sk_w P n s I J R) (some (.int (nI (iK Z.its 6))))) := by
  intro m
  induction m with
  | zero =>
    intro k z5 hk
    have : k = 6 := by omega
    subst this
    rw [g_X5_ingredientSet_13]
    simp (disch := omega) only [g_X5_ingredientSet_15, g_X5_ingredientSet_16, lk_X5_ingredientSet, g_X5_ingredientSet_54, g_X5_ingredientSet_55, lk_X5_ingredientSet, XI, Nat.reduceAdd, Nat.reduceEqDiff, not_false_eq_true, nI_T1, nI_T0, true_and, and_true, WC, WV, WU, nI_leS, Nat.le_refl, if_true]
  | succ m ih =>
    intro k z5 hk
    have hb := iK_le hZ k
    rw [g_X5_ingredientSet_13]
    cases hs : Z.its[k]? with
    | none =>
      have h2 := ih (k + 1) (some .null) (by omega)
      rw [iK_s, hs] at h2
      simp (disch := omega) only [g_X5_ingredientSet_15, g_X5_ingredientSet_16, g_X5_ingredientSet_19, g_X5_ingredientSet_20, g_X5_ingredientSet_22, g_X5_ingredientSet_23, g_X5_ingredientSet_25, g_X5_ingredientSet_27, g_X5_ingredientSet_30, g_X5_ingredientSet_32, g_X5_ingredientSet_35, g_X5_ingredientSet_38, g_X5_ingredientSet_39, g_X5_ingredientSet_40, g_X5_ingredientSet_42, g_X5_ingredientSet_45, g_X5_ingredientSet_46, g_X5_ingredientSet_47, g_X5_ingredientSet_48, g_X5_ingredientSet_51, lk_X5_ingredientSet, XI, Nat.reduceAdd, Nat.reduceEqDiff, not_false_eq_true, nI_T1, nI_T0, true_and, and_true, WC, WV, WU, nI_leS, sk_cP n s I J R hi, nI_cl, rs_in_t, un k (by omega) hs, nI_addS]
      rw [if_neg (by omega)]
      exact h2
    | some t =>
      obtain ⟨y, hy, cy⟩ := us k t (by omega) hs
      have ht := hZ.2.2.1 k t hs
      have hso := ht.2.2.2
      obtain ⟨Vt, c1, v0, v1, v2⟩ := id cy
      have h2 := ih (k + 1) (some (.ref y)) (by omega)
      rw [iK_s, hs] at h2
      dsimp only at h2
      by_cases e : 12 ≤ t.so
      · rw [if_pos e] at h2
        have ep := pow_lt8 (show t.so - 12 < 8 by omega)
        simp (disch := omega) only [g_X5_ingredientSet_15, g_X5_ingredientSet_16, g_X5_ingredientSet_19, g_X5_ingredientSet_20, g_X5_ingredientSet_22, g_X5_ingredientSet_23, g_X5_ingredientSet_25, g_X5_ingredientSet_27, g_X5_ingredientSet_30, g_X5_ingredientSet_32, g_X5_ingredientSet_35, g_X5_ingredientSet_38, g_X5_ingredientSet_39, g_X5_ingredientSet_40, g_X5_ingredientSet_42, g_X5_ingredientSet_45, g_X5_ingredientSet_46, g_X5_ingredientSet_47, g_X5_ingredientSet_48, g_X5_ingredientSet_51, lk_X5_ingredientSet, XI, Nat.reduceAdd, Nat.reduceEqDiff, not_false_eq_true, nI_T1, nI_T0, true_and, and_true, WC, WV, WU, rs_b_0, rs_b_ok2, true_or, or_true, Classical.not_not, not_true_eq_false, if_true, if_false, reduceCtorEq, nI_leS, sk_cP n s I J R hi, nI_cl, rs_in_t, hy, k_It P n s I J R cy, g_isOfRecipe n s I J R _ _ cy ht, e, g_innerRecipe n s I J R _ _ cy e, bt_shl, Nat.one_mul, bt_or, nI_addS]
        rw [if_neg (by omega)]
        exact h2
      · rw [if_neg e] at h2
        have ep := pow_lt12 (show t.so < 12 by omega)
        simp (disch := omega) only [g_X5_ingredientSet_15, g_X5_ingredientSet_16, g_X5_ingredientSet_19, g_X5_ingredientSet_20, g_X5_ingredientSet_22, g_X5_ingredientSet_23, g_X5_ingredientSet_25, g_X5_ingredientSet_27, g_X5_ingredientSet_30, g_X5_ingredientSet_32, g_X5_ingredientSet_35, g_X5_ingredientSet_38, g_X5_ingredientSet_39, g_X5_ingredientSet_40, g_X5_ingredientSet_42, g_X5_ingredientSet_45, g_X5_ingredientSet_46, g_X5_ingredientSet_47, g_X5_ingredientSet_48, g_X5_ingredientSet_51, lk_X5_ingredientSet, XI, Nat.reduceAdd, Nat.reduceEqDiff, not_false_eq_true, nI_T1, nI_T0, true_and, and_true, WC, WV, WU, rs_b_0, rs_b_ok2, true_or, or_true, Classical.not_not, not_true_eq_false, if_true, if_false, reduceCtorEq, nI_leS, sk_cP n s I J R hi, sk_cP n s I J R c1, v2, nI_cl, rs_in_t, hy, k_It P n s I J R cy, g_isOfRecipe n s I J R _ _ cy ht, e, bt_shl, Nat.one_mul, bt_or, nI_addS]
        rw [if_neg (by omega)]
        exact h2
theorem s_ingredientSet {b x r : Nat} {Z : Rc} (hx : cRc P b x r Z) (hZ : Z.ok) : rs_XM (d + 1) yX5_ingredientSet [.ref x] (sk_w P n s I J R) Q ↔ Q (sk_w P n s I J R) (some (.int (nI (iK Z.its 6)))) := by
  obtain ⟨V, i, U, h1, h2, v0, v1, v2, v3, v4, un, us⟩ := hx
  rw [em_X5_ingredientSet]
  simp (disch := omega) only [g_X5_ingredientSet_0, g_X5_ingredientSet_1, g_X5_ingredientSet_2, g_X5_ingredientSet_3, g_X5_ingredientSet_6, g_X5_ingredientSet_7, g_X5_ingredientSet_8, g_X5_ingredientSet_9, g_X5_ingredientSet_10, g_X5_ingredientSet_11, lk_X5_ingredientSet, XI, Nat.reduceAdd, Nat.reduceEqDiff, not_false_eq_true, nI_T1, nI_T0, true_and, and_true, WC, WV, WU, sk_cP n s I J R h1, sk_cP n s I J R h2, v1]
  exact X5_ingredientSet_l P n s I J R d Q hZ h2 un us (x := x) 6 0 none rfl
theorem X7_din_l {b q : Nat} {D : Dt} (hq : cSt P b q D) (hD : D.ok) {st : Nat} (hst : st < 4294967296 / 2) : ∀ (m k : Nat) (z4 : Option Value), k + m = 8 → (rs_X (d + 2) yX7_recipesDirectlyIn 4 [some (.ref q), some (.int (nI st)), some (.int (nI (dIn D st k))), some (.int (nI k)), z4] [] (sk_w P n s I J R) Q ↔ Q (sk_w P n s I J R) (some (.int (nI (dIn D st 8))))) := by
  intro m
  induction m with
  | zero =>
    intro k z4 hk
    have : k = 8 := by omega
    subst this
    rw [g_X7_recipesDirectlyIn_4]
    simp (disch := omega) only [g_X7_recipesDirectlyIn_5, g_X7_recipesDirectlyIn_7, lk_X7_recipesDirectlyIn, g_X7_recipesDirectlyIn_44, g_X7_recipesDirectlyIn_45, lk_X7_recipesDirectlyIn, XI, Nat.reduceAdd, Nat.reduceEqDiff, not_false_eq_true, nI_T1, nI_T0, true_and, and_true, WC, WV, WU, nI_leS, Nat.le_refl, if_true]
  | succ m ih =>
    intro k z4 hk
    have hb := dIn_le hD st k
    have hd8 := diR_le hD k
    have h2 := fun z => ih (k + 1) z (by omega)
    simp only [dIn_s] at h2
    rw [g_X7_recipesDirectlyIn_4]
    cases hz : D.rc k with
    | none =>
      have e0 : diR D k = 0 := by unfold diR; rw [hz]
      have e1 : (if st.testBit k = true then dIn D st k ||| diR D k else dIn D st k) = dIn D st k := by
        rw [e0]
        split
        · exact Nat.or_zero _
        · rfl
      rw [e1] at h2
      simp (disch := omega) only [g_X7_recipesDirectlyIn_5, g_X7_recipesDirectlyIn_7, g_X7_recipesDirectlyIn_10, g_X7_recipesDirectlyIn_11, g_X7_recipesDirectlyIn_12, g_X7_recipesDirectlyIn_15, g_X7_recipesDirectlyIn_17, g_X7_recipesDirectlyIn_19, g_X7_recipesDirectlyIn_22, g_X7_recipesDirectlyIn_23, g_X7_recipesDirectlyIn_24, g_X7_recipesDirectlyIn_27, g_X7_recipesDirectlyIn_30, g_X7_recipesDirectlyIn_31, g_X7_recipesDirectlyIn_33, g_X7_recipesDirectlyIn_36, g_X7_recipesDirectlyIn_37, g_X7_recipesDirectlyIn_38, g_X7_recipesDirectlyIn_41, lk_X7_recipesDirectlyIn, XI, Nat.reduceAdd, Nat.reduceEqDiff, not_false_eq_true, nI_T1, nI_T0, true_and, and_true, WC, WV, WU, nI_leS, k_St P n s I J R hq, g_recipeAt_n n s I J R hq (show k < 8 by omega) hz, nI_addS]
      rw [if_neg (by omega)]
      exact h2 _
    | some Z =>
      have hZ := (hD.1 k Z hz).2
      have e0 : diR D k = dK Z.its 6 := by unfold diR; rw [hz]
      rw [e0] at hd8
      simp only [e0] at h2
      obtain ⟨y, hy, cy⟩ := g_recipeAt_s hq (show k < 8 by omega) hz
      by_cases e : st.testBit k = true
      · simp only [e, if_true] at h2
        simp (disch := omega) only [g_X7_recipesDirectlyIn_5, g_X7_recipesDirectlyIn_7, g_X7_recipesDirectlyIn_10, g_X7_recipesDirectlyIn_11, g_X7_recipesDirectlyIn_12, g_X7_recipesDirectlyIn_15, g_X7_recipesDirectlyIn_17, g_X7_recipesDirectlyIn_19, g_X7_recipesDirectlyIn_22, g_X7_recipesDirectlyIn_23, g_X7_recipesDirectlyIn_24, g_X7_recipesDirectlyIn_27, g_X7_recipesDirectlyIn_30, g_X7_recipesDirectlyIn_31, g_X7_recipesDirectlyIn_33, g_X7_recipesDirectlyIn_36, g_X7_recipesDirectlyIn_37, g_X7_recipesDirectlyIn_38, g_X7_recipesDirectlyIn_41, lk_X7_recipesDirectlyIn, XI, Nat.reduceAdd, Nat.reduceEqDiff, not_false_eq_true, nI_T1, nI_T0, true_and, and_true, WC, WV, WU, rs_b_0, rs_b_ok2, true_or, or_true, Classical.not_not, not_true_eq_false, if_true, if_false, reduceCtorEq, nI_leS, k_St P n s I J R hq, cy, s_X11_isSet, e, k_Rc P n s I J R hy, s_recipeSet5 P n s I J R _ _ hy hZ, bt_or, nI_addS]
        rw [if_neg (by omega)]
        exact h2 _
      · simp only [e, if_false, Bool.false_eq_true] at h2
        simp (disch := omega) only [g_X7_recipesDirectlyIn_5, g_X7_recipesDirectlyIn_7, g_X7_recipesDirectlyIn_10, g_X7_recipesDirectlyIn_11, g_X7_recipesDirectlyIn_12, g_X7_recipesDirectlyIn_15, g_X7_recipesDirectlyIn_17, g_X7_recipesDirectlyIn_19, g_X7_recipesDirectlyIn_22, g_X7_recipesDirectlyIn_23, g_X7_recipesDirectlyIn_24, g_X7_recipesDirectlyIn_27, g_X7_recipesDirectlyIn_30, g_X7_recipesDirectlyIn_31, g_X7_recipesDirectlyIn_33, g_X7_recipesDirectlyIn_36, g_X7_recipesDirectlyIn_37, g_X7_recipesDirectlyIn_38, g_X7_recipesDirectlyIn_41, lk_X7_recipesDirectlyIn, XI, Nat.reduceAdd, Nat.reduceEqDiff, not_false_eq_true, nI_T1, nI_T0, true_and, and_true, WC, WV, WU, rs_b_0, rs_b_ok2, true_or, or_true, Classical.not_not, not_true_eq_false, if_true, if_false, reduceCtorEq, nI_leS, k_St P n s I J R hq, cy, s_X11_isSet, e, nI_addS, Bool.false_eq_true, not_false_eq_true]
        rw [if_neg (by omega)]
        exact h2 _
theorem s_din {b q : Nat} {D : Dt} (hq : cSt P b q D) (hD : D.ok) {st : Nat} (hst : st < 2147483648) : rs_XM (d + 2) yX7_recipesDirectlyIn [.ref q, .int (nI st)] (sk_w P n s I J R) Q ↔ Q (sk_w P n s I J R) (some (.int (nI (dIn D st 8)))) := by
  rw [em_X7_recipesDirectlyIn]
  simp (disch := omega) only [g_X7_recipesDirectlyIn_0, g_X7_recipesDirectlyIn_1, g_X7_recipesDirectlyIn_2, g_X7_recipesDirectlyIn_3, lk_X7_recipesDirectlyIn, XI, Nat.reduceAdd, Nat.reduceEqDiff, not_false_eq_true, nI_T1, nI_T0, true_and, and_true, WC, WV, WU]
  exact X7_din_l P n s I J R d Q hq hD hst 8 0 none rfl
theorem X7_within_l {b q : Nat} {D : Dt} (hq : cSt P b q D) (hD : D.ok) {r : Nat} (x1 : Int32) : ∀ (m k : Nat), k + m = 8 → (rs_X (d + 3) yX7_recipesWithin 10 [some (.ref q), some (.int x1), some (.int (nI (itr (wF D) k (diR D r)))), some (.int (nI k))] [] (sk_w P n s I J R) Q ↔ Q (sk_w P n s I J R) (some (.int (nI (conD D r))))) := by
  intro m
  induction m with
  | zero =>
    intro k hk
    have : k = 8 := by omega
    subst this
    rw [g_X7_recipesWithin_10]
    simp (disch := omega) only [g_X7_recipesWithin_11, g_X7_recipesWithin_13, g_X7_recipesWithin_16, g_X7_recipesWithin_17, g_X7_recipesWithin_18, g_X7_recipesWithin_19, g_X7_recipesWithin_22, g_X7_recipesWithin_23, g_X7_recipesWithin_24, g_X7_recipesWithin_27, g_X7_recipesWithin_30, g_X7_recipesWithin_31, lk_X7_recipesWithin, XI, Nat.reduceAdd, Nat.reduceEqDiff, not_false_eq_true, nI_T1, nI_T0, true_and, and_true, WC, WV, WU, nI_leS, Nat.le_refl, if_true]
    exact Iff.rfl
  | succ m ih =>
    intro k hk
    have hb := itr_le (F := wF D) (fun _ h => wF_le hD h) (diR_le hD r) k
    have hb2 := dIn_le hD (itr (wF D) k (diR D r)) 8
    have h2 := ih (k + 1) (by omega)
    rw [itr_s] at h2
    rw [g_X7_recipesWithin_10]
    simp (disch := omega) only [g_X7_recipesWithin_11, g_X7_recipesWithin_13, g_X7_recipesWithin_16, g_X7_recipesWithin_17, g_X7_recipesWithin_18, g_X7_recipesWithin_19, g_X7_recipesWithin_22, g_X7_recipesWithin_23, g_X7_recipesWithin_24, g_X7_recipesWithin_27, lk_X7_recipesWithin, XI, Nat.reduceAdd, Nat.reduceEqDiff, not_false_eq_true, nI_T1, nI_T0, true_and, and_true, WC, WV, WU, nI_leS, k_St P n s I J R hq, s_din P n s I J R _ _ hq hD, bt_or, nI_addS]
    rw [if_neg (by omega)]
    exact h2
theorem s_within {b q : Nat} {D : Dt} (hq : cSt P b q D) (hD : D.ok) {r : Nat} (hr : r < 8) : rs_XM (d + 3) yX7_recipesWithin [.ref q, .int (nI r)] (sk_w P n s I J R) Q ↔ Q (sk_w P n s I J R) (some (.int (nI (conD D r)))) := by
  have ep := pow_lt8 hr
  rw [em_X7_recipesWithin]
  simp (disch := omega) only [g_X7_recipesWithin_0, g_X7_recipesWithin_1, g_X7_recipesWithin_2, g_X7_recipesWithin_3, g_X7_recipesWithin_4, g_X7_recipesWithin_7, g_X7_recipesWithin_8, g_X7_recipesWithin_9, lk_X7_recipesWithin, XI, Nat.reduceAdd, Nat.reduceEqDiff, not_false_eq_true, nI_T1, nI_T0, true_and, and_true, WC, WV, WU, k_St P n s I J R hq, bt_shl, Nat.one_mul, s_din P n s I J R _ _ hq hD, dIn_one D hr]
  exact X7_within_l P n s I J R d Q hq hD (r := r) _ 8 0 rfl
theorem X7_ingw_l {b q : Nat} {D : Dt} (hq : cSt P b q D) (hD : D.ok) {st : Nat} (hst : st < 256) (x1 : Int32) : ∀ (m k : Nat) (z5 : Option Value), k + m = 8 → (rs_X (d + 2) yX7_ingredientsWithin 15 [some (.ref q), some (.int x1), some (.int (nI st)), some (.int (nI (inD D st k))), some (.int (nI k)), z5] [] (sk_w P n s I J R) Q ↔ Q (sk_w P n s I J R) (some (.int (nI (inD D st 8))))) := by
  intro m
  induction m with
  | zero =>
    intro k z5 hk
    have : k = 8 := by omega
    subst this
    rw [g_X7_ingredientsWithin_15]
    simp (disch := omega) only [g_X7_ingredientsWithin_17, g_X7_ingredientsWithin_19, lk_X7_ingredientsWithin, g_X7_ingredientsWithin_58, g_X7_ingredientsWithin_59, lk_X7_ingredientsWithin, XI, Nat.reduceAdd, Nat.reduceEqDiff, not_false_eq_true, nI_T1, nI_T0, true_and, and_true, WC, WV, WU, nI_leS, Nat.le_refl, if_true]
  | succ m ih =>
    intro k z5 hk
    have hb := inD_le hD st k
    have hd8 := igR_le hD k
    have h2 := fun z => ih (k + 1) z (by omega)
    simp only [inD_s] at h2
    rw [g_X7_ingredientsWithin_15]
    cases hz : D.rc k with
    | none =>
      have e0 : igR D k = 0 := by unfold igR; rw [hz]
      have e1 : (if st.testBit k = true then inD D st k ||| igR D k else inD D st k) = inD D st k := by
        rw [e0]
        split
        · exact Nat.or_zero _
        · rfl
      rw [e1] at h2
      simp (disch := omega) only [g_X7_ingredientsWithin_17, g_X7_ingredientsWithin_19, g_X7_ingredientsWithin_22, g_X7_ingredientsWithin_23, g_X7_ingredientsWithin_25, g_X7_ingredientsWithin_28, g_X7_ingredientsWithin_30, g_X7_ingredientsWithin_32, g_X7_ingredientsWithin_35, g_X7_ingredientsWithin_36, g_X7_ingredientsWithin_38, g_X7_ingredientsWithin_41, g_X7_ingredientsWithin_44, g_X7_ingredientsWithin_45, g_X7_ingredientsWithin_47, g_X7_ingredientsWithin_50, g_X7_ingredientsWithin_51, g_X7_ingredientsWithin_52, g_X7_ingredientsWithin_55, lk_X7_ingredientsWithin, XI, Nat.reduceAdd, Nat.reduceEqDiff, not_false_eq_true, nI_T1, nI_T0, true_and, and_true, WC, WV, WU, nI_leS, k_St P n s I J R hq, g_recipeAt_n n s I J R hq (show k < 8 by omega) hz, nI_addS]
      rw [if_neg (by omega)]
      exact h2 _
    | some Z =>
      have hZ := (hD.1 k Z hz).2
      have e0 : igR D k = iK Z.its 6 := by unfold igR; rw [hz]
      rw [e0] at hd8
      simp only [e0] at h2
      obtain ⟨y, hy, cy⟩ := g_recipeAt_s hq (show k < 8 by omega) hz
      by_cases e : st.testBit k = true
      · simp only [e, if_true] at h2
        simp (disch := omega) only [g_X7_ingredientsWithin_17, g_X7_ingredientsWithin_19, g_X7_ingredientsWithin_22, g_X7_ingredientsWithin_23, g_X7_ingredientsWithin_25, g_X7_ingredientsWithin_28, g_X7_ingredientsWithin_30, g_X7_ingredientsWithin_32, g_X7_ingredientsWithin_35, g_X7_ingredientsWithin_36, g_X7_ingredientsWithin_38, g_X7_ingredientsWithin_41, g_X7_ingredientsWithin_44, g_X7_ingredientsWithin_45, g_X7_ingredientsWithin_47, g_X7_ingredientsWithin_50, g_X7_ingredientsWithin_51, g_X7_ingredientsWithin_52, g_X7_ingredientsWithin_55, lk_X7_ingredientsWithin, XI, Nat.reduceAdd, Nat.reduceEqDiff, not_false_eq_true, nI_T1, nI_T0, true_and, and_true, WC, WV, WU, rs_b_0, rs_b_ok2, true_or, or_true, Classical.not_not, not_true_eq_false, if_true, if_false, reduceCtorEq, nI_leS, k_St P n s I J R hq, cy, s_X11_isSet, e, k_Rc P n s I J R hy, s_ingredientSet P n s I J R _ _ hy hZ, bt_or, nI_addS]
        rw [if_neg (by omega)]
        exact h2 _
      · simp only [e, if_false, Bool.false_eq_true] at h2
        simp (disch := omega) only [g_X7_ingredientsWithin_17, g_X7_ingredientsWithin_19, g_X7_ingredientsWithin_22, g_X7_ingredientsWithin_23, g_X7_ingredientsWithin_25, g_X7_ingredientsWithin_28, g_X7_ingredientsWithin_30, g_X7_ingredientsWithin_32, g_X7_ingredientsWithin_35, g_X7_ingredientsWithin_36, g_X7_ingredientsWithin_38, g_X7_ingredientsWithin_41, g_X7_ingredientsWithin_44, g_X7_ingredientsWithin_45, g_X7_ingredientsWithin_47, g_X7_ingredientsWithin_50, g_X7_ingredientsWithin_51, g_X7_ingredientsWithin_52, g_X7_ingredientsWithin_55, lk_X7_ingredientsWithin, XI, Nat.reduceAdd, Nat.reduceEqDiff, not_false_eq_true, nI_T1, nI_T0, true_and, and_true, WC, WV, WU, rs_b_0, rs_b_ok2, true_or, or_true, Classical.not_not, not_true_eq_false, if_true, if_false, reduceCtorEq, nI_leS, k_St P n s I J R hq, cy, s_X11_isSet, e, nI_addS, Bool.false_eq_true, not_false_eq_true]
        rw [if_neg (by omega)]
        exact h2 _
theorem s_ingw {b q : Nat} {D : Dt} (hq : cSt P b q D) (hD : D.ok) {r : Nat} (hr : r < 8) : rs_XM (d + 4) yX7_ingredientsWithin [.ref q, .int (nI r)] (sk_w P n s I J R) Q ↔ Q (sk_w P n s I J R) (some (.int (nI (inD D (2 ^ r ||| conD D r) 8)))) := by
  have ep := pow_lt8 hr
  have hc := conD_le hD r
  rw [em_X7_ingredientsWithin]
  simp (disch := omega) only [g_X7_ingredientsWithin_0, g_X7_ingredientsWithin_1, g_X7_ingredientsWithin_2, g_X7_ingredientsWithin_3, g_X7_ingredientsWithin_4, g_X7_ingredientsWithin_5, g_X7_ingredientsWithin_8, g_X7_ingredientsWithin_9, g_X7_ingredientsWithin_10, g_X7_ingredientsWithin_11, g_X7_ingredientsWithin_12, g_X7_ingredientsWithin_13, lk_X7_ingredientsWithin, XI, Nat.reduceAdd, Nat.reduceEqDiff, not_false_eq_true, nI_T1, nI_T0, true_and, and_true, WC, WV, WU, k_St P n s I J R hq, bt_shl, Nat.one_mul, s_within P n s I J R _ _ hq hD hr, bt_or]
  exact X7_ingw_l P n s I J R (d + 2) Q hq hD (or_lt8 ep hc) _ 8 0 none rfl
/-! the reference -/
theorem mRc_len {f : Nat → Int32} {D : Dt} (hM : mDt f D) {r : Nat} (hr : r < 8) : f (30 * r + 1) = nI (match D.rc r with
    | none => 0
    | some Z => Z.its.length) := by
  have h := hM.1 r hr
  cases hz : D.rc r with
  | none => rw [hz] at h; exact h.2
  | some Z => rw [hz] at h; exact h.2.1
theorem X12_direct_l {D : Dt} (hM : mDt (I 62) D) (hD : D.ok) {r : Nat} (hr : r < 8) {Z : Rc} (hz : D.rc r = some Z) : ∀ (m k : Nat) (z4 : Option Value), k + m = Z.its.length → (rs_X (d + 1) yX12_direct 4 [some (.ref 61), some (.int (nI r)), some (.int (nI (dK Z.its k))), some (.int (nI k)), z4] [] (sk_w P n s I J R) Q ↔ Q (sk_w P n s I J R) (some (.int (nI (dK Z.its Z.its.length))))) := by
  have hZ := (hD.1 r Z hz).2
  have hl6 := hZ.2.1
  have hlen := mRc_len hM hr
  rw [hz] at hlen
  dsimp only at hlen
  have hrc := hM.1 r hr
  rw [hz] at hrc
  intro m
  induction m with
  | zero =>
    intro k z4 hk
    have : k = Z.its.length := by omega
    subst this
    rw [g_X12_direct_4]
    simp (disch := omega) only [g_X12_direct_5, g_X12_direct_6, g_X12_direct_9, g_X12_direct_11, g_X12_direct_12, g_X12_direct_13, g_X12_direct_14, g_X12_direct_15, g_X12_direct_16, lk_X12_direct, g_X12_direct_60, g_X12_direct_61, lk_X12_direct, XI, Nat.reduceAdd, Nat.reduceEqDiff, not_false_eq_true, nI_T1, nI_T0, true_and, and_true, WC, WV, WU, nI_mulS, nI_addS, nI_cl, rs_in_t, hlen, nI_leS, Nat.le_refl, if_true]
  | succ m ih =>
    intro k z4 hk
    have hs : Z.its[k]? = some Z.its[k] := List.getElem?_eq_getElem (by omega)
    obtain ⟨m1, m2, m3, m4⟩ := hrc.2.2.2.2.2.2 k _ hs
    have ht := hZ.2.2.1 k _ hs
    have hso := ht.2.2.2
    have hb := dK_le hZ k
    have h2 := fun z => ih (k + 1) z (by omega)
    simp only [dK_s, hs] at h2
    generalize Z.its[k] = t at hs m1 m2 m3 m4 ht hso h2
    rw [g_X12_direct_4]
    simp (disch := omega) only [g_X12_direct_5, g_X12_direct_6, g_X12_direct_9, g_X12_direct_11, g_X12_direct_12, g_X12_direct_13, g_X12_direct_14, g_X12_direct_15, g_X12_direct_16, g_X12_direct_19, g_X12_direct_20, g_X12_direct_23, g_X12_direct_24, g_X12_direct_25, g_X12_direct_28, g_X12_direct_29, g_X12_direct_30, g_X12_direct_31, g_X12_direct_33, g_X12_direct_34, g_X12_direct_36, g_X12_direct_38, lk_X12_direct, XI, Nat.reduceAdd, Nat.reduceEqDiff, not_false_eq_true, nI_T1, nI_T0, true_and, and_true, WC, WV, WU, nI_mulS, nI_addS, nI_cl, rs_in_t, hlen, nI_leS, s_X12_itemAt, m4, nI_ltS]
    rw [if_neg (by omega)]
    by_cases e : 12 ≤ t.so
    · have ep := pow_lt8 (show t.so - 12 < 8 by omega)
      have e2 : ¬ t.so < 12 := by omega
      simp only [e, if_true] at h2
      simp (disch := omega) only [e2, if_false, g_X12_direct_41, g_X12_direct_42, g_X12_direct_44, g_X12_direct_46, g_X12_direct_47, g_X12_direct_48, g_X12_direct_51, g_X12_direct_52, g_X12_direct_53, g_X12_direct_54, g_X12_direct_57, lk_X12_direct, XI, Nat.reduceAdd, Nat.reduceEqDiff, not_false_eq_true, nI_T1, nI_T0, true_and, and_true, WC, WV, WU, nI_subS, bt_shl, Nat.one_mul, bt_or, nI_addS]
      exact h2 _
    · have e2 : t.so < 12 := by omega
      simp only [e, if_false] at h2
      simp (disch := omega) only [e2, if_true, g_X12_direct_51, g_X12_direct_52, g_X12_direct_53, g_X12_direct_54, g_X12_direct_57, lk_X12_direct, XI, Nat.reduceAdd, Nat.reduceEqDiff, not_false_eq_true, nI_T1, nI_T0, true_and, and_true, WC, WV, WU, nI_or0, nI_addS]
      exact h2 _
theorem s_direct {D : Dt} (hM : mDt (I 62) D) (hD : D.ok) {r : Nat} (hr : r < 8) : rs_XM (d + 1) yX12_direct [.ref 61, .int (nI r)] (sk_w P n s I J R) Q ↔ Q (sk_w P n s I J R) (some (.int (nI (diR D r)))) := by
  rw [em_X12_direct]
  simp (disch := omega) only [g_X12_direct_0, g_X12_direct_1, g_X12_direct_2, g_X12_direct_3, lk_X12_direct, XI, Nat.reduceAdd, Nat.reduceEqDiff, not_false_eq_true, nI_T1, nI_T0, true_and, and_true, WC, WV, WU]
  unfold diR
  cases hz : D.rc r with
  | none =>
    have hlen := mRc_len hM hr
    rw [hz] at hlen
    dsimp only at hlen
    rw [g_X12_direct_4]
    simp (disch := omega) only [g_X12_direct_5, g_X12_direct_6, g_X12_direct_9, g_X12_direct_11, g_X12_direct_12, g_X12_direct_13, g_X12_direct_14, g_X12_direct_15, g_X12_direct_16, lk_X12_direct, g_X12_direct_60, g_X12_direct_61, lk_X12_direct, XI, Nat.reduceAdd, Nat.reduceEqDiff, not_false_eq_true, nI_T1, nI_T0, true_and, and_true, WC, WV, WU, nI_mulS, nI_addS, nI_cl, rs_in_t, hlen, nI_leS, Nat.le_refl, if_true]
  | some Z =>
    have hZ := (hD.1 r Z hz).2
    have hl6 := hZ.2.1
    have e : dK Z.its 6 = dK Z.its Z.its.length := by
      have := dK_more Z.its (6 - Z.its.length) Z.its.length (Nat.le_refl _)
      rw [show Z.its.length + (6 - Z.its.length) = 6 by omega] at this
      exact this
    dsimp only
    rw [e]
    exact X12_direct_l P n s I J R d Q hM hD hr hz Z.its.length 0 none (Nat.zero_add _)
theorem bit_and1 {a k : Nat} (ha : a < 2147483648) (hk : k < 32) : (nI a >>> (nI k &&& 31) &&& nI 1 = nI 1) ↔ a.testBit k = true := by
  have h1 : a / 2 ^ k ≤ a := Nat.div_le_self _ _
  have h2 : a / 2 ^ k % 2 < 2 := Nat.mod_lt _ (by decide)
  rw [bt_shr ha hk, bt_and1 (show a / 2 ^ k < 2147483648 by omega), nI_eqS (by omega) (by decide), Nat.testBit_eq_decide_div_mod_eq, decide_eq_true_eq]
theorem X12_cont_i {D : Dt} (hM : mDt (I 62) D) (hD : D.ok) {st : Nat} (hst : st < 256) (x1 x3 : Int32) : ∀ (m k : Nat), k + m = 8 → (rs_X (d + 2) yX12_contained 17 [some (.ref 61), some (.int x1), some (.int (nI (tI D st k))), some (.int x3), some (.int (nI k))] [] (sk_w P n s I J R) Q ↔ rs_X (d + 2) yX12_contained 53 [some (.ref 61), some (.int x1), some (.int (nI (tI D st 8))), some (.int x3), some (.int (nI 8))] [] (sk_w P n s I J R) Q) := by
  intro m
  induction m with
  | zero =>
    intro k hk
    have : k = 8 := by omega
    subst this
    rw [g_X12_contained_17]
    simp (disch := omega) only [g_X12_contained_19, g_X12_contained_21, g_X12_contained_24, g_X12_contained_25, g_X12_contained_26, g_X12_contained_28, g_X12_contained_29, g_X12_contained_30, g_X12_contained_31, g_X12_contained_32, g_X12_contained_35, g_X12_contained_36, g_X12_contained_38, g_X12_contained_41, g_X12_contained_44, g_X12_contained_45, g_X12_contained_46, g_X12_contained_47, g_X12_contained_50, lk_X12_contained, XI, Nat.reduceAdd, Nat.reduceEqDiff, not_false_eq_true, nI_T1, nI_T0, true_and, and_true, WC, WV, WU, nI_leS, Nat.le_refl, if_true]
  | succ m ih =>
    intro k hk
    have hb := tI_le hD hst k
    have hd8 := diR_le hD k
    have h2 := ih (k + 1) (by omega)
    rw [tI_s] at h2
    rw [g_X12_contained_17]
    simp (disch := omega) only [g_X12_contained_19, g_X12_contained_21, g_X12_contained_24, g_X12_contained_25, g_X12_contained_26, g_X12_contained_28, g_X12_contained_29, g_X12_contained_30, g_X12_contained_31, g_X12_contained_32, lk_X12_contained, XI, Nat.reduceAdd, Nat.reduceEqDiff, not_false_eq_true, nI_T1, nI_T0, true_and, and_true, WC, WV, WU, nI_leS, bit_and1]
    rw [if_neg (by omega)]
    by_cases e : (tI D st k).testBit k = true
    · rw [if_pos e] at h2
      simp (disch := omega) only [e, not_true_eq_false, if_false, g_X12_contained_35, g_X12_contained_36, g_X12_contained_38, g_X12_contained_41, g_X12_contained_44, g_X12_contained_45, g_X12_contained_46, g_X12_contained_47, g_X12_contained_50, lk_X12_contained, XI, Nat.reduceAdd, Nat.reduceEqDiff, not_false_eq_true, nI_T1, nI_T0, true_and, and_true, WC, WV, WU, s_direct P n s I J R _ _ hM hD, bt_or, nI_addS]
      exact h2
    · rw [if_neg e] at h2
      simp (disch := omega) only [e, Bool.false_eq_true, not_false_eq_true, if_true, g_X12_contained_44, g_X12_contained_45, g_X12_contained_46, g_X12_contained_47, g_X12_contained_50, lk_X12_contained, XI, Nat.reduceAdd, Nat.reduceEqDiff, not_false_eq_true, nI_T1, nI_T0, true_and, and_true, WC, WV, WU, nI_or0, nI_addS]
      exact h2
theorem X12_cont_o {D : Dt} (hM : mDt (I 62) D) (hD : D.ok) {r : Nat} (x1 : Int32) : ∀ (m k : Nat) (z4 : Option Value), k + m = 8 → (rs_X (d + 2) yX12_contained 8 [some (.ref 61), some (.int x1), some (.int (nI (itr (fun a => tI D a 8) k (diR D r)))), some (.int (nI k)), z4] [] (sk_w P n s I J R) Q ↔ Q (sk_w P n s I J R) (some (.int (nI (conD D r))))) := by
  intro m
  induction m with
  | zero =>
    intro k z4 hk
    have : k = 8 := by omega
    subst this
    rw [g_X12_contained_8]
    simp (disch := omega) only [g_X12_contained_9, g_X12_contained_11, lk_X12_contained, g_X12_contained_59, g_X12_contained_60, lk_X12_contained, XI, Nat.reduceAdd, Nat.reduceEqDiff, not_false_eq_true, nI_T1, nI_T0, true_and, and_true, WC, WV, WU, nI_leS, Nat.le_refl, if_true, conD_t hD]
  | succ m ih =>
    intro k z4 hk
    have hb := itr_le (F := fun a => tI D a 8) (fun a ha => tI_le hD ha 8) (diR_le hD r) k
    have h2 := ih (k + 1) (some (.int (nI 8))) (by omega)
    rw [itr_s] at h2
    rw [g_X12_contained_8]
    simp (disch := omega) only [g_X12_contained_9, g_X12_contained_11, g_X12_contained_14, g_X12_contained_15, lk_X12_contained, XI, Nat.reduceAdd, Nat.reduceEqDiff, not_false_eq_true, nI_T1, nI_T0, true_and, and_true, WC, WV, WU, nI_leS]
    rw [if_neg (by omega)]
    have h3 := X12_cont_i P n s I J R d Q hM hD hb x1 (nI k) 8 0 rfl
    refine Iff.trans h3 ?_
    simp (disch := omega) only [g_X12_contained_53, g_X12_contained_56, lk_X12_contained, XI, Nat.reduceAdd, Nat.reduceEqDiff, not_false_eq_true, nI_T1, nI_T0, true_and, and_true, WC, WV, WU, nI_addS]
    exact h2
theorem s_contained {D : Dt} (hM : mDt (I 62) D) (hD : D.ok) {r : Nat} (hr : r < 8) : rs_XM (d + 2) yX12_contained [.ref 61, .int (nI r)] (sk_w P n s I J R) Q ↔ Q (sk_w P n s I J R) (some (.int (nI (conD D r)))) := by
  rw [em_X12_contained]
  simp (disch := omega) only [g_X12_contained_0, g_X12_contained_1, g_X12_contained_2, g_X12_contained_5, g_X12_contained_6, g_X12_contained_7, lk_X12_contained, XI, Nat.reduceAdd, Nat.reduceEqDiff, not_false_eq_true, nI_T1, nI_T0, true_and, and_true, WC, WV, WU, s_direct P n s I J R _ _ hM hD hr]
  exact X12_cont_o P n s I J R d Q hM hD (r := r) _ 8 0 none rfl
theorem X12_ing_i {D : Dt} (hM : mDt (I 62) D) (hD : D.ok) {o : Nat} (ho : o < 8) {Z : Rc} (hz : D.rc o = some Z) {st : Nat} (hst : st < 256) (hbit : st.testBit o = true) {a : Nat} (ha : a < 4096) (x1 : Int32) : ∀ (m k : Nat) (z6 : Option Value), k + m = Z.its.length → (∀ z6, rs_X (d + 3) yX12_ingredients 92 [some (.ref 61), some (.int x1), some (.int (nI st)), some (.int (nI (a ||| iK Z.its 6))), some (.int (nI o)), some (.int (nI Z.its.length)), z6] [] (sk_w P n s I J R) Q) → rs_X (d + 3) yX12_ingredients 25 [some (.ref 61), some (.int x1), some (.int (nI st)), some (.int (nI (a ||| iK Z.its k))), some (.int (nI o)), some (.int (nI k)), z6] [] (sk_w P n s I J R) Q := by
  have hZ := (hD.1 o Z hz).2
  have hl6 := hZ.2.1
  have hlen := mRc_len hM ho
  rw [hz] at hlen
  dsimp only at hlen
  have hrc := hM.1 o ho
  rw [hz] at hrc
  have e6 : iK Z.its 6 = iK Z.its Z.its.length := by
    have := iK_more Z.its (6 - Z.its.length) Z.its.length (Nat.le_refl _)
    rw [show Z.its.length + (6 - Z.its.length) = 6 by omega] at this
    exact this
  intro m
  induction m with
  | zero =>
    intro k z6 hk h
    have : k = Z.its.length := by omega
    subst this
    rw [g_X12_ingredients_25]
    simp (disch := omega) only [g_X12_ingredients_27, g_X12_ingredients_28, g_X12_ingredients_31, g_X12_ingredients_33, g_X12_ingredients_35, g_X12_ingredients_36, g_X12_ingredients_37, g_X12_ingredients_38, g_X12_ingredients_39, lk_X12_ingredients, XI, Nat.reduceAdd, Nat.reduceEqDiff, not_false_eq_true, nI_T1, nI_T0, true_and, and_true, WC, WV, WU, nI_mulS, nI_addS, nI_cl, rs_in_t, hlen, nI_leS, Nat.le_refl, if_true]
    rw [← e6]
    exact h _
  | succ m ih =>
    intro k z6 hk h
    have hs : Z.its[k]? = some Z.its[k] := List.getElem?_eq_getElem (by omega)
    obtain ⟨m1, m2, m3, m4⟩ := hrc.2.2.2.2.2.2 k _ hs
    have ht := hZ.2.2.1 k _ hs
    have hso := ht.2.2.2
    have hb := iK_le hZ k
    have hab := or_lt12 ha hb
    have h2 := fun z => ih (k + 1) z (by omega) h
    simp only [iK_s, hs] at h2
    generalize Z.its[k] = t at hs m1 m2 m3 m4 ht hso h2
    rw [g_X12_ingredients_25]
    simp (disch := omega) only [g_X12_ingredients_27, g_X12_ingredients_28, g_X12_ingredients_31, g_X12_ingredients_33, g_X12_ingredients_35, g_X12_ingredients_36, g_X12_ingredients_37, g_X12_ingredients_38, g_X12_ingredients_39, g_X12_ingredients_42, g_X12_ingredients_43, g_X12_ingredients_45, g_X12_ingredients_46, g_X12_ingredients_47, g_X12_ingredients_48, g_X12_ingredients_49, g_X12_ingredients_52, g_X12_ingredients_53, g_X12_ingredients_56, g_X12_ingredients_58, g_X12_ingredients_60, g_X12_ingredients_63, g_X12_ingredients_64, g_X12_ingredients_65, g_X12_ingredients_66, g_X12_ingredients_68, g_X12_ingredients_69, g_X12_ingredients_71, g_X12_ingredients_73, lk_X12_ingredients, XI, Nat.reduceAdd, Nat.reduceEqDiff, not_false_eq_true, nI_T1, nI_T0, true_and, and_true, WC, WV, WU, nI_mulS, nI_addS, nI_cl, rs_in_t, hlen, nI_leS, bit_and1, hbit, not_true_eq_false, if_false, s_X12_itemAt, m4]
    rw [if_neg (by omega)]
    by_cases e : 12 ≤ t.so
    · simp only [e, if_true] at h2
      simp (disch := omega) only [e, if_true, g_X12_ingredients_83, g_X12_ingredients_84, g_X12_ingredients_85, g_X12_ingredients_86, g_X12_ingredients_89, lk_X12_ingredients, XI, Nat.reduceAdd, Nat.reduceEqDiff, not_false_eq_true, nI_T1, nI_T0, true_and, and_true, WC, WV, WU, nI_or0, nI_addS]
      exact h2 _
    · have ep := pow_lt12 (show t.so < 12 by omega)
      simp only [e, if_false] at h2
      simp (disch := omega) only [e, if_false, g_X12_ingredients_76, g_X12_ingredients_77, g_X12_ingredients_79, g_X12_ingredients_80, g_X12_ingredients_83, g_X12_ingredients_84, g_X12_ingredients_85, g_X12_ingredients_86, g_X12_ingredients_89, lk_X12_ingredients, XI, Nat.reduceAdd, Nat.reduceEqDiff, not_false_eq_true, nI_T1, nI_T0, true_and, and_true, WC, WV, WU, bt_shl, Nat.one_mul, bt_or, nI_addS]
      rw [Nat.or_assoc]
      exact h2 _
theorem X12_ing_o {D : Dt} (hM : mDt (I 62) D) (hD : D.ok) {st : Nat} (hst : st < 256) (x1 : Int32) (hQ : Q (sk_w P n s I J R) (some (.int (nI (inD D st 8))))) : ∀ (m k : Nat) (z5 z6 : Option Value), k + m = 8 → rs_X (d + 3) yX12_ingredients 15 [some (.ref 61), some (.int x1), some (.int (nI st)), some (.int (nI (inD D st k))), some (.int (nI k)), z5, z6] [] (sk_w P n s I J R) Q := by
  intro m
  induction m with
  | zero =>
    intro k z5 z6 hk
    have : k = 8 := by omega
    subst this
    rw [g_X12_ingredients_15]
    simp (disch := omega) only [g_X12_ingredients_17, g_X12_ingredients_19, lk_X12_ingredients, g_X12_ingredients_98, g_X12_ingredients_99, lk_X12_ingredients, XI, Nat.reduceAdd, Nat.reduceEqDiff, not_false_eq_true, nI_T1, nI_T0, true_and, and_true, WC, WV, WU, nI_leS, Nat.le_refl, if_true]
    exact hQ
  | succ m ih =>
    intro k z5 z6 hk
    have hb := inD_le hD st k
    have hlen := mRc_len hM (show k < 8 by omega)
    have h2 := fun z z' => ih (k + 1) z z' (by omega)
    simp only [inD_s] at h2
    rw [g_X12_ingredients_15]
    simp (disch := omega) only [g_X12_ingredients_17, g_X12_ingredients_19, g_X12_ingredients_22, g_X12_ingredients_23, lk_X12_ingredients, XI, Nat.reduceAdd, Nat.reduceEqDiff, not_false_eq_true, nI_T1, nI_T0, true_and, and_true, WC, WV, WU, nI_leS]
    rw [if_neg (by omega)]
    cases hz : D.rc k with
    | none =>
      rw [hz] at hlen
      dsimp only at hlen
      have e0 : igR D k = 0 := by unfold igR; rw [hz]
      have e1 : (if st.testBit k = true then inD D st k ||| igR D k else inD D st k) = inD D st k := by
        rw [e0]
        split
        · exact Nat.or_zero _
        · rfl
      rw [e1] at h2
      rw [g_X12_ingredients_25]
      simp (disch := omega) only [g_X12_ingredients_27, g_X12_ingredients_28, g_X12_ingredients_31, g_X12_ingredients_33, g_X12_ingredients_35, g_X12_ingredients_36, g_X12_ingredients_37, g_X12_ingredients_38, g_X12_ingredients_39, lk_X12_ingredients, g_X12_ingredients_92, g_X12_ingredients_95, lk_X12_ingredients, XI, Nat.reduceAdd, Nat.reduceEqDiff, not_false_eq_true, nI_T1, nI_T0, true_and, and_true, WC, WV, WU, nI_mulS, nI_addS, nI_cl, rs_in_t, hlen, nI_leS, Nat.le_refl, if_true]
      exact h2 _ _
    | some Z =>
      have hZ := (hD.1 k Z hz).2
      have hl1 := hZ.1
      have hl6 := hZ.2.1
      rw [hz] at hlen
      dsimp only at hlen
      have e0 : igR D k = iK Z.its 6 := by unfold igR; rw [hz]
      simp only [e0] at h2
      by_cases e : st.testBit k = true
      · simp only [e, if_true] at h2
        have h3 := X12_ing_i P n s I J R d Q hM hD (show k < 8 by omega) hz hst e hb x1 Z.its.length 0 z6 (Nat.zero_add _)
        have ez : iK Z.its 0 = 0 := rfl
        rw [ez, Nat.or_zero] at h3
        refine h3 ?_
        intro z6
        simp (disch := omega) only [g_X12_ingredients_92, g_X12_ingredients_95, lk_X12_ingredients, XI, Nat.reduceAdd, Nat.reduceEqDiff, not_false_eq_true, nI_T1, nI_T0, true_and, and_true, WC, WV, WU, nI_addS]
        exact h2 _ _
      · simp only [e, if_false, Bool.false_eq_true] at h2
        rw [g_X12_ingredients_25]
        simp (disch := omega) only [g_X12_ingredients_27, g_X12_ingredients_28, g_X12_ingredients_31, g_X12_ingredients_33, g_X12_ingredients_35, g_X12_ingredients_36, g_X12_ingredients_37, g_X12_ingredients_38, g_X12_ingredients_39, g_X12_ingredients_42, g_X12_ingredients_43, g_X12_ingredients_45, g_X12_ingredients_46, g_X12_ingredients_47, g_X12_ingredients_48, g_X12_ingredients_49, lk_X12_ingredients, g_X12_ingredients_92, g_X12_ingredients_95, lk_X12_ingredients, XI, Nat.reduceAdd, Nat.reduceEqDiff, not_false_eq_true, nI_T1, nI_T0, true_and, and_true, WC, WV, WU, nI_mulS, nI_addS, nI_cl, rs_in_t, hlen, nI_leS, bit_and1, e, Bool.false_eq_true, not_false_eq_true, if_true]
        rw [if_neg (by omega)]
        exact h2 _ _
theorem s_ingredients {D : Dt} (hM : mDt (I 62) D) (hD : D.ok) {r : Nat} (hr : r < 8) (hQ : Q (sk_w P n s I J R) (some (.int (nI (inD D (2 ^ r ||| conD D r) 8))))) : rs_XM (d + 3) yX12_ingredients [.ref 61, .int (nI r)] (sk_w P n s I J R) Q := by
  have ep := pow_lt8 hr
  have hc := conD_le hD r
  rw [em_X12_ingredients]
  simp (disch := omega) only [g_X12_ingredients_0, g_X12_ingredients_1, g_X12_ingredients_2, g_X12_ingredients_5, g_X12_ingredients_6, g_X12_ingredients_7, g_X12_ingredients_8, g_X12_ingredients_9, g_X12_ingredients_10, g_X12_ingredients_11, g_X12_ingredients_12, g_X12_ingredients_13, lk_X12_ingredients, XI, Nat.reduceAdd, Nat.reduceEqDiff, not_false_eq_true, nI_T1, nI_T0, true_and, and_true, WC, WV, WU, s_contained P n s I J R _ _ hM hD hr, bt_shl, Nat.one_mul, bt_or]
  rw [Nat.or_comm]
  exact X12_ing_o P n s I J R d Q hM hD (or_lt8 ep hc) _ hQ 8 0 none none rfl
end
