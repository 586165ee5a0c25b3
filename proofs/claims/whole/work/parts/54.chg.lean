/-! changes of an ingredient: both sides alike -/
section
variable {D : Dt} {Ds : Option Dt} {L : List Dt} {tp : List Nat} {rea : Int32}
theorem b_allergens (hS : SOk D Ds L tp) (x0 x1 x2 : Int32) : BC yX11_allergens yX12_allergens [.int x0, .int x1, .int x2] D Ds L tp rea := by
  by_cases c0 : nI 0 ≤ x0 ∧ x0 ≤ nI 11
  · obtain ⟨i, -, hi0, rfl⟩ := (nI_within (by decide) (by decide)).mp c0
    have hi : i < 12 := by omega
    by_cases c1 : nI 0 ≤ x1 ∧ x1 ≤ nI 255
    · by_cases c2 : nI 0 ≤ x2 ∧ x2 ≤ nI 255
      · obtain ⟨a, -, ha, rfl⟩ := (nI_within (by decide) (by decide)).mp c1
        obtain ⟨b, -, hb, rfl⟩ := (nI_within (by decide) (by decide)).mp c2
        have hg := hS.1.2.1 i hi
        have hD' := Dt.setI_ok hS.1 (i := i) (Ig.setAl_ok hg ha hb)
        refine ⟨D.setI i ((D.ig i).setAl a b), Ds, nxL L D, tp, rea, .int (nI ((D.ig i).con + 256 * (D.ig i).tra)), nxL_ok hS hD', fun d P n s I J R Q h hQ => ?_, fun d P n s I J R Q g8 h hQ => ?_, Or.inl ⟨_, rfl⟩⟩
        · obtain ⟨q, hR, hq⟩ := h.2.1
          have h84 := h.1
          obtain ⟨y, hy, cy⟩ := g_ingredientAt hq hi
          rw [em_X11_allergens]
          simp (disch := omega) only [g_X11_allergens_0, g_X11_allergens_1, g_X11_allergens_4, g_X11_allergens_5, g_X11_allergens_8, g_X11_allergens_10, g_X11_allergens_12, g_X11_allergens_15, g_X11_allergens_16, g_X11_allergens_17, g_X11_allergens_18, g_X11_allergens_19, g_X11_allergens_22, g_X11_allergens_25, g_X11_allergens_28, g_X11_allergens_29, g_X11_allergens_30, g_X11_allergens_33, g_X11_allergens_36, g_X11_allergens_39, g_X11_allergens_41, g_X11_allergens_42, g_X11_allergens_44, lk_X11_allergens, XI, Nat.reduceAdd, Nat.reduceEqDiff, not_false_eq_true, nI_T1, nI_T0, true_and, and_true, WC, WV, WU, rs_b_0, rs_b_ok2, true_or, or_true, Classical.not_not, not_true_eq_false, if_true, if_false, reduceCtorEq, s_X11_isWithin, hR, va_rf, k_St P n s I J R hq, cy, c1, c2, k_Ig P n s I J R hy]
          refine s_X1_copy n s I J R (d + 57) _ h84 hy hg ?_
          intro P1 V Ua Uc o1 p1
          have o2 := oIg_set (g' := (D.ig i).setAl a (D.ig i).tra) o1 2 (.int (nI a)) (by decide) (by decide) (by decide) rfl o1.2.2.2.2.1 o1.2.2.2.2.2.1 rfl o1.2.2.2.2.2.2.2.1 o1.2.2.2.2.2.2.2.2.1
          have o3 := oIg_set (g' := (D.ig i).setAl a b) o2 3 (.int (nI b)) (by decide) (by decide) (by decide) rfl o2.2.2.2.2.1 o2.2.2.2.2.2.1 o2.2.2.2.2.2.2.1 rfl o2.2.2.2.2.2.2.2.2.1
          simp (disch := omega) only [g_X11_allergens_47, g_X11_allergens_49, g_X11_allergens_51, g_X11_allergens_52, g_X11_allergens_55, g_X11_allergens_57, g_X11_allergens_58, g_X11_allergens_61, g_X11_allergens_62, g_X11_allergens_63, g_X11_allergens_65, lk_X11_allergens, XI, Nat.reduceAdd, Nat.reduceEqDiff, not_false_eq_true, nI_T1, nI_T0, true_and, and_true, WC, WV, WU, sk_pool o1.1.2.1, sk_up_p o1.1.2.1, o1.1.2.2, vu_eq]
          refine s_replaceIngredient (n + 3) _ I J R (d + 56) _ hS h (fun j hj => ?_) (by omega) hi (cIg_o.mpr ⟨_, _, _, _, _, o3⟩) ?_
          · rw [vu_ne _ _ (by omega), vu_ne _ _ (by omega)]
            exact p1 j hj
          intro P' I' R' h' f' hP'
          have hy' := cIg_m (b' := n + 3) (fun j hj => (by rw [hP' j (by omega), vu_ne _ _ (by omega), vu_ne _ _ (by omega)]; exact p1 j hj : P' j = P j)) (by omega) hy
          obtain ⟨V2, a2, e2, Ua2, Uc2, g1, g2, g3, g4, v0, v1, v2, v3, v4, v5, v6, v7, g5⟩ := id hy'
          simp (disch := omega) only [g_X11_allergens_68, g_X11_allergens_70, g_X11_allergens_73, g_X11_allergens_76, g_X11_allergens_78, g_X11_allergens_81, g_X11_allergens_82, g_X11_allergens_83, lk_X11_allergens, XI, Nat.reduceAdd, Nat.reduceEqDiff, not_false_eq_true, nI_T1, nI_T0, true_and, and_true, WC, WV, WU, sk_pool g1.2.1, g1.2.2, v2, v3, nI_mulS, nI_addS]
          exact hQ P' _ _ I' J R' h' f' (fC_r J) (by omega) (by omega)
        · obtain ⟨m1, m2, m3, m4, m5, m6, m7⟩ := h.1.2.1 i hi
          have hL := hS.2.2.1
          have k62 : ∀ j, kpI I L.length 62 j = I 62 j := fun j => kpI_ne I _ (by omega) (by decide)
          rw [em_X12_allergens]
          simp (disch := omega) only [g_X12_allergens_0, g_X12_allergens_1, g_X12_allergens_4, g_X12_allergens_7, g_X12_allergens_8, g_X12_allergens_9, g_X12_allergens_10, g_X12_allergens_11, g_X12_allergens_14, g_X12_allergens_17, g_X12_allergens_20, g_X12_allergens_21, g_X12_allergens_22, g_X12_allergens_25, g_X12_allergens_28, g_X12_allergens_31, g_X12_allergens_33, g_X12_allergens_34, g_X12_allergens_35, g_X12_allergens_38, g_X12_allergens_39, g_X12_allergens_42, g_X12_allergens_44, g_X12_allergens_45, g_X12_allergens_48, g_X12_allergens_50, g_X12_allergens_51, g_X12_allergens_52, g_X12_allergens_53, g_X12_allergens_56, g_X12_allergens_57, g_X12_allergens_60, g_X12_allergens_62, g_X12_allergens_63, g_X12_allergens_64, g_X12_allergens_65, g_X12_allergens_66, g_X12_allergens_67, g_X12_allergens_69, g_X12_allergens_70, g_X12_allergens_73, g_X12_allergens_75, g_X12_allergens_76, g_X12_allergens_77, g_X12_allergens_78, g_X12_allergens_79, g_X12_allergens_80, g_X12_allergens_83, g_X12_allergens_85, g_X12_allergens_86, g_X12_allergens_87, g_X12_allergens_88, g_X12_allergens_89, g_X12_allergens_91, lk_X12_allergens, XI, Nat.reduceAdd, Nat.reduceEqDiff, not_false_eq_true, nI_T1, nI_T0, true_and, and_true, WC, WV, WU, rs_b_0, rs_b_ok2, true_or, or_true, Classical.not_not, not_true_eq_false, if_true, if_false, reduceCtorEq, s_X12_isIngredient, s_X12_in, c0, c1, c2, s_X12_keep _ P n s I J R _ hL h.2.2.1, s_X12_at, nI_addS, nI_mulS, nI_cl, rs_in_t, k62, m3, m4]
          have hl := hg.2.2.2.2.2.1
          have e : ∀ j, ¬ j = 240 + 14 * i + 4 → ¬ j = 240 + 14 * i + 5 → rs_u2 (rs_u2 (kpI I L.length) 62 (240 + 14 * i + 4) (nI a)) 62 (240 + 14 * i + 5) (nI b) 62 j = I 62 j := fun j h1 h2 => by rw [rs_u2_ne _ _ (by omega), rs_u2_ne _ _ (by omega)]; exact k62 j
          refine hQ _ J (RI_keep hS h (mDt_I hS.1 hi (fun j hj => e j (by omega) (by omega)) ⟨?_, ?_, ?_, ?_, ?_, ?_, ?_⟩ h.1) (fun q j h1 h2 => by rw [rs_u2_ne _ _ (by omega), rs_u2_ne _ _ (by omega)])) (fR_u (fR_u (kpI_R I _) (by decide)) (by decide)) (fR_r J)
          · exact mFr_c (fun j h1 h2 => e j (by omega) (by omega)) m1
          · exact mFr_c (fun j h1 h2 => e j (by omega) (by omega)) m2
          · rw [rs_u2_ne _ _ (by omega), rs_u2_eq]; rfl
          · rw [rs_u2_eq]; rfl
          · rw [e _ (by omega) (by omega)]; exact m5
          · rw [e _ (by omega) (by omega)]; exact m6
          · intro k p hk
            have hk3 := (List.getElem?_eq_some_iff.mp hk).1
            have hk3 : k < (D.ig i).pk.length := hk3
            rw [e _ (by omega) (by omega), e _ (by omega) (by omega)]
            exact m7 k p hk
      · refine BC_same hS (.int (-2)) (Or.inl ⟨_, rfl⟩) (fun d P n s I J R Q h hQ => ?_) (fun d P n s I J R Q h hQ => ?_)
        · obtain ⟨q, hR, hq⟩ := h.2.1
          obtain ⟨y, hy, cy⟩ := g_ingredientAt hq hi
          rw [em_X11_allergens]
          simp (disch := omega) only [g_X11_allergens_0, g_X11_allergens_1, g_X11_allergens_4, g_X11_allergens_5, g_X11_allergens_8, g_X11_allergens_10, g_X11_allergens_12, g_X11_allergens_15, g_X11_allergens_16, g_X11_allergens_17, g_X11_allergens_18, g_X11_allergens_19, g_X11_allergens_22, g_X11_allergens_25, g_X11_allergens_28, g_X11_allergens_29, g_X11_allergens_30, g_X11_allergens_33, g_X11_allergens_36, g_X11_allergens_39, g_X11_allergens_41, lk_X11_allergens, XI, Nat.reduceAdd, Nat.reduceEqDiff, not_false_eq_true, nI_T1, nI_T0, true_and, and_true, WC, WV, WU, rs_b_0, rs_b_ok2, true_or, or_true, Classical.not_not, not_true_eq_false, if_true, if_false, reduceCtorEq, s_X11_isIngredient, s_X11_isRecipe, s_X11_isWithin, s_X11_isPart, hR, va_rf, k_St P n s I J R hq, cy, c1, c2]
          exact hQ
        · rw [em_X12_allergens]
          simp (disch := omega) only [g_X12_allergens_0, g_X12_allergens_1, g_X12_allergens_4, g_X12_allergens_7, g_X12_allergens_8, g_X12_allergens_9, g_X12_allergens_10, g_X12_allergens_11, g_X12_allergens_14, g_X12_allergens_17, g_X12_allergens_20, g_X12_allergens_21, g_X12_allergens_22, g_X12_allergens_25, g_X12_allergens_28, g_X12_allergens_31, g_X12_allergens_33, lk_X12_allergens, XI, Nat.reduceAdd, Nat.reduceEqDiff, not_false_eq_true, nI_T1, nI_T0, true_and, and_true, WC, WV, WU, rs_b_0, rs_b_ok2, true_or, or_true, Classical.not_not, not_true_eq_false, if_true, if_false, reduceCtorEq, s_X12_isIngredient, s_X12_isNumber, s_X12_in, c0, c1, c2]
          exact hQ
    · refine BC_same hS (.int (-2)) (Or.inl ⟨_, rfl⟩) (fun d P n s I J R Q h hQ => ?_) (fun d P n s I J R Q h hQ => ?_)
      · obtain ⟨q, hR, hq⟩ := h.2.1
        obtain ⟨y, hy, cy⟩ := g_ingredientAt hq hi
        rw [em_X11_allergens]
        simp (disch := omega) only [g_X11_allergens_0, g_X11_allergens_1, g_X11_allergens_4, g_X11_allergens_5, g_X11_allergens_8, g_X11_allergens_10, g_X11_allergens_12, g_X11_allergens_15, g_X11_allergens_16, g_X11_allergens_17, g_X11_allergens_18, g_X11_allergens_19, g_X11_allergens_22, g_X11_allergens_25, g_X11_allergens_28, g_X11_allergens_29, g_X11_allergens_30, g_X11_allergens_33, g_X11_allergens_36, g_X11_allergens_39, g_X11_allergens_41, lk_X11_allergens, XI, Nat.reduceAdd, Nat.reduceEqDiff, not_false_eq_true, nI_T1, nI_T0, true_and, and_true, WC, WV, WU, rs_b_0, rs_b_ok2, true_or, or_true, Classical.not_not, not_true_eq_false, if_true, if_false, reduceCtorEq, s_X11_isIngredient, s_X11_isRecipe, s_X11_isWithin, s_X11_isPart, hR, va_rf, k_St P n s I J R hq, cy, c1]
        exact hQ
      · rw [em_X12_allergens]
        simp (disch := omega) only [g_X12_allergens_0, g_X12_allergens_1, g_X12_allergens_4, g_X12_allergens_7, g_X12_allergens_8, g_X12_allergens_9, g_X12_allergens_10, g_X12_allergens_11, g_X12_allergens_14, g_X12_allergens_17, g_X12_allergens_20, g_X12_allergens_21, g_X12_allergens_22, g_X12_allergens_25, g_X12_allergens_28, g_X12_allergens_31, g_X12_allergens_33, lk_X12_allergens, XI, Nat.reduceAdd, Nat.reduceEqDiff, not_false_eq_true, nI_T1, nI_T0, true_and, and_true, WC, WV, WU, rs_b_0, rs_b_ok2, true_or, or_true, Classical.not_not, not_true_eq_false, if_true, if_false, reduceCtorEq, s_X12_isIngredient, s_X12_isNumber, s_X12_in, c0, c1]
        exact hQ
  · refine BC_same hS (.int (-1)) (Or.inl ⟨_, rfl⟩) (fun d P n s I J R Q h hQ => ?_) (fun d P n s I J R Q h hQ => ?_)
    · obtain ⟨q, hR, hq⟩ := h.2.1
      rw [em_X11_allergens]
      simp (disch := omega) only [g_X11_allergens_0, g_X11_allergens_1, g_X11_allergens_4, g_X11_allergens_5, g_X11_allergens_8, g_X11_allergens_10, g_X11_allergens_12, g_X11_allergens_15, g_X11_allergens_16, lk_X11_allergens, XI, Nat.reduceAdd, Nat.reduceEqDiff, not_false_eq_true, nI_T1, nI_T0, true_and, and_true, WC, WV, WU, rs_b_0, rs_b_ok2, true_or, or_true, Classical.not_not, not_true_eq_false, if_true, if_false, reduceCtorEq, s_X11_isIngredient, s_X11_isRecipe, s_X11_isWithin, s_X11_isPart, hR, va_rf, k_St P n s I J R hq, g_ingredientAt_o n s _ _ R _ _ hq c0]
      exact hQ
    · rw [em_X12_allergens]
      simp (disch := omega) only [g_X12_allergens_0, g_X12_allergens_1, g_X12_allergens_4, g_X12_allergens_7, g_X12_allergens_8, lk_X12_allergens, XI, Nat.reduceAdd, Nat.reduceEqDiff, not_false_eq_true, nI_T1, nI_T0, true_and, and_true, WC, WV, WU, rs_b_0, rs_b_ok2, true_or, or_true, Classical.not_not, not_true_eq_false, if_true, if_false, reduceCtorEq, s_X12_isIngredient, s_X12_isNumber, s_X12_in, c0]
      exact hQ
theorem b_stock (hS : SOk D Ds L tp) (x0 x1 : Int32) : BC yX11_stock yX12_stock [.int x0, .int x1] D Ds L tp rea := by
  by_cases c0 : nI 0 ≤ x0 ∧ x0 ≤ nI 11
  · obtain ⟨i, -, hi0, rfl⟩ := (nI_within (by decide) (by decide)).mp c0
    have hi : i < 12 := by omega
    by_cases c1 : nI 0 ≤ x1 ∧ x1 ≤ nI 999999
    · obtain ⟨a, -, ha, rfl⟩ := (nI_within (by decide) (by decide)).mp c1
      have hg := hS.1.2.1 i hi
      have hD' := Dt.setI_ok hS.1 (i := i) (Ig.setSt_ok hg ha)
      refine ⟨D.setI i ((D.ig i).setSt a), Ds, nxL L D, tp, rea, .int (nI (D.ig i).stk), nxL_ok hS hD', fun d P n s I J R Q h hQ => ?_, fun d P n s I J R Q g8 h hQ => ?_, Or.inl ⟨_, rfl⟩⟩
      · obtain ⟨q, hR, hq⟩ := h.2.1
        have h84 := h.1
        obtain ⟨y, hy, cy⟩ := g_ingredientAt hq hi
        rw [em_X11_stock]
        simp (disch := omega) only [g_X11_stock_0, g_X11_stock_1, g_X11_stock_4, g_X11_stock_5, g_X11_stock_8, g_X11_stock_9, g_X11_stock_10, g_X11_stock_13, g_X11_stock_14, g_X11_stock_15, g_X11_stock_16, g_X11_stock_17, g_X11_stock_19, g_X11_stock_22, g_X11_stock_25, g_X11_stock_27, g_X11_stock_28, g_X11_stock_29, lk_X11_stock, XI, Nat.reduceAdd, Nat.reduceEqDiff, not_false_eq_true, nI_T1, nI_T0, true_and, and_true, WC, WV, WU, rs_b_0, rs_b_ok2, true_or, or_true, Classical.not_not, not_true_eq_false, if_true, if_false, reduceCtorEq, s_X11_isWithin, hR, va_rf, k_St P n s I J R hq, cy, c1, k_Ig P n s I J R hy]
        refine s_X1_copy n s I J R (d + 57) _ h84 hy hg ?_
        intro P1 V Ua Uc o1 p1
        have o2 := oIg_set (g' := (D.ig i).setSt a) o1 4 (.int (nI a)) (by decide) (by decide) (by decide) rfl o1.2.2.2.2.1 o1.2.2.2.2.2.1 o1.2.2.2.2.2.2.1 o1.2.2.2.2.2.2.2.1 rfl
        simp (disch := omega) only [g_X11_stock_32, g_X11_stock_34, g_X11_stock_36, g_X11_stock_37, g_X11_stock_40, g_X11_stock_41, g_X11_stock_42, g_X11_stock_44, lk_X11_stock, XI, Nat.reduceAdd, Nat.reduceEqDiff, not_false_eq_true, nI_T1, nI_T0, true_and, and_true, WC, WV, WU, sk_pool o1.1.2.1, sk_up_p o1.1.2.1, o1.1.2.2, vu_eq]
        refine s_replaceIngredient (n + 3) _ I J R (d + 56) _ hS h (fun j hj => ?_) (by omega) hi (cIg_o.mpr ⟨_, _, _, _, _, o2⟩) ?_
        · rw [vu_ne _ _ (by omega)]
          exact p1 j hj
        intro P' I' R' h' f' hP'
        have hy' := cIg_m (b' := n + 3) (fun j hj => (by rw [hP' j (by omega), vu_ne _ _ (by omega)]; exact p1 j hj : P' j = P j)) (by omega) hy
        obtain ⟨V2, a2, e2, Ua2, Uc2, g1, g2, g3, g4, v0, v1, v2, v3, v4, v5, v6, v7, g5⟩ := id hy'
        simp (disch := omega) only [g_X11_stock_47, g_X11_stock_48, g_X11_stock_51, lk_X11_stock, XI, Nat.reduceAdd, Nat.reduceEqDiff, not_false_eq_true, nI_T1, nI_T0, true_and, and_true, WC, WV, WU, sk_pool g1.2.1, g1.2.2, v4]
        exact hQ P' _ _ I' J R' h' f' (fC_r J) (by omega) (by omega)
      · obtain ⟨m1, m2, m3, m4, m5, m6, m7⟩ := h.1.2.1 i hi
        have hL := hS.2.2.1
        have k62 : ∀ j, kpI I L.length 62 j = I 62 j := fun j => kpI_ne I _ (by omega) (by decide)
        rw [em_X12_stock]
        simp (disch := omega) only [g_X12_stock_0, g_X12_stock_1, g_X12_stock_4, g_X12_stock_7, g_X12_stock_8, g_X12_stock_9, g_X12_stock_10, g_X12_stock_11, g_X12_stock_13, g_X12_stock_16, g_X12_stock_19, g_X12_stock_21, g_X12_stock_22, g_X12_stock_23, g_X12_stock_26, g_X12_stock_27, g_X12_stock_30, g_X12_stock_31, g_X12_stock_34, g_X12_stock_36, g_X12_stock_37, g_X12_stock_38, g_X12_stock_39, g_X12_stock_40, g_X12_stock_43, g_X12_stock_44, g_X12_stock_47, g_X12_stock_49, g_X12_stock_50, g_X12_stock_51, g_X12_stock_52, g_X12_stock_53, lk_X12_stock, XI, Nat.reduceAdd, Nat.reduceEqDiff, not_false_eq_true, nI_T1, nI_T0, true_and, and_true, WC, WV, WU, rs_b_0, rs_b_ok2, true_or, or_true, Classical.not_not, not_true_eq_false, if_true, if_false, reduceCtorEq, s_X12_isIngredient, s_X12_in, c0, c1, s_X12_keep _ P n s I J R _ hL h.2.2.1, s_X12_at, nI_addS, nI_mulS, nI_cl, rs_in_t, k62, m5]
        have hl := hg.2.2.2.2.2.1
        have e : ∀ j, ¬ j = 240 + 14 * i + 6 → rs_u2 (kpI I L.length) 62 (240 + 14 * i + 6) (nI a) 62 j = I 62 j := fun j h1 => by rw [rs_u2_ne _ _ (by omega)]; exact k62 j
        refine hQ _ J (RI_keep hS h (mDt_I hS.1 hi (fun j hj => e j (by omega)) ⟨?_, ?_, ?_, ?_, ?_, ?_, ?_⟩ h.1) (fun q j h1 h2 => by rw [rs_u2_ne _ _ (by omega)])) (fR_u (kpI_R I _) (by decide)) (fR_r J)
        · exact mFr_c (fun j h1 h2 => e j (by omega)) m1
        · exact mFr_c (fun j h1 h2 => e j (by omega)) m2
        · rw [e _ (by omega)]; exact m3
        · rw [e _ (by omega)]; exact m4
        · rw [rs_u2_eq]; rfl
        · rw [e _ (by omega)]; exact m6
        · intro k p hk
          have hk3 : k < (D.ig i).pk.length := (List.getElem?_eq_some_iff.mp hk).1
          rw [e _ (by omega), e _ (by omega)]
          exact m7 k p hk
    · refine BC_same hS (.int (-2)) (Or.inl ⟨_, rfl⟩) (fun d P n s I J R Q h hQ => ?_) (fun d P n s I J R Q h hQ => ?_)
      · obtain ⟨q, hR, hq⟩ := h.2.1
        obtain ⟨y, hy, cy⟩ := g_ingredientAt hq hi
        rw [em_X11_stock]
        simp (disch := omega) only [g_X11_stock_0, g_X11_stock_1, g_X11_stock_4, g_X11_stock_5, g_X11_stock_8, g_X11_stock_9, g_X11_stock_10, g_X11_stock_13, g_X11_stock_14, g_X11_stock_15, g_X11_stock_16, g_X11_stock_17, g_X11_stock_19, g_X11_stock_22, g_X11_stock_25, g_X11_stock_27, lk_X11_stock, XI, Nat.reduceAdd, Nat.reduceEqDiff, not_false_eq_true, nI_T1, nI_T0, true_and, and_true, WC, WV, WU, rs_b_0, rs_b_ok2, true_or, or_true, Classical.not_not, not_true_eq_false, if_true, if_false, reduceCtorEq, s_X11_isIngredient, s_X11_isRecipe, s_X11_isWithin, s_X11_isPart, hR, va_rf, k_St P n s I J R hq, cy, c1]
        exact hQ
      · rw [em_X12_stock]
        simp (disch := omega) only [g_X12_stock_0, g_X12_stock_1, g_X12_stock_4, g_X12_stock_7, g_X12_stock_8, g_X12_stock_9, g_X12_stock_10, g_X12_stock_11, g_X12_stock_13, g_X12_stock_16, g_X12_stock_19, g_X12_stock_21, lk_X12_stock, XI, Nat.reduceAdd, Nat.reduceEqDiff, not_false_eq_true, nI_T1, nI_T0, true_and, and_true, WC, WV, WU, rs_b_0, rs_b_ok2, true_or, or_true, Classical.not_not, not_true_eq_false, if_true, if_false, reduceCtorEq, s_X12_isIngredient, s_X12_isNumber, s_X12_in, c0, c1]
        exact hQ
  · refine BC_same hS (.int (-1)) (Or.inl ⟨_, rfl⟩) (fun d P n s I J R Q h hQ => ?_) (fun d P n s I J R Q h hQ => ?_)
    · obtain ⟨q, hR, hq⟩ := h.2.1
      rw [em_X11_stock]
      simp (disch := omega) only [g_X11_stock_0, g_X11_stock_1, g_X11_stock_4, g_X11_stock_5, g_X11_stock_8, g_X11_stock_9, g_X11_stock_10, g_X11_stock_13, g_X11_stock_14, lk_X11_stock, XI, Nat.reduceAdd, Nat.reduceEqDiff, not_false_eq_true, nI_T1, nI_T0, true_and, and_true, WC, WV, WU, rs_b_0, rs_b_ok2, true_or, or_true, Classical.not_not, not_true_eq_false, if_true, if_false, reduceCtorEq, s_X11_isIngredient, s_X11_isRecipe, s_X11_isWithin, s_X11_isPart, hR, va_rf, k_St P n s I J R hq, g_ingredientAt_o n s _ _ R _ _ hq c0]
      exact hQ
    · rw [em_X12_stock]
      simp (disch := omega) only [g_X12_stock_0, g_X12_stock_1, g_X12_stock_4, g_X12_stock_7, g_X12_stock_8, lk_X12_stock, XI, Nat.reduceAdd, Nat.reduceEqDiff, not_false_eq_true, nI_T1, nI_T0, true_and, and_true, WC, WV, WU, rs_b_0, rs_b_ok2, true_or, or_true, Classical.not_not, not_true_eq_false, if_true, if_false, reduceCtorEq, s_X12_isIngredient, s_X12_isNumber, s_X12_in, c0]
      exact hQ
theorem b_pack (hS : SOk D Ds L tp) (x0 x1 x2 : Int32) : BC yX11_pack yX12_pack [.int x0, .int x1, .int x2] D Ds L tp rea := by
  by_cases c0 : nI 0 ≤ x0 ∧ x0 ≤ nI 11
  · obtain ⟨i, -, hi0, rfl⟩ := (nI_within (by decide) (by decide)).mp c0
    have hi : i < 12 := by omega
    by_cases c1 : nI 1 ≤ x1 ∧ x1 ≤ nI 2000
    · by_cases c2 : nI 0 ≤ x2 ∧ x2 ≤ nI 999
      · obtain ⟨a, ha1, ha, rfl⟩ := (nI_within (by decide) (by decide)).mp c1
        obtain ⟨b, -, hb, rfl⟩ := (nI_within (by decide) (by decide)).mp c2
        have hg := hS.1.2.1 i hi
        have hl := hg.2.2.2.2.2.1
        by_cases c3 : (D.ig i).pk.length = 3
        · have c3' : ¬ (D.ig i).pk.length < 3 := by omega
          refine BC_same hS (.int (-4)) (Or.inl ⟨_, rfl⟩) (fun d P n s I J R Q h hQ => ?_) (fun d P n s I J R Q h hQ => ?_)
          · obtain ⟨q, hR, hq⟩ := h.2.1
            obtain ⟨y, hy, cy⟩ := g_ingredientAt hq hi
            rw [em_X11_pack]
            simp (disch := omega) only [g_X11_pack_0, g_X11_pack_1, g_X11_pack_4, g_X11_pack_5, g_X11_pack_8, g_X11_pack_10, g_X11_pack_12, g_X11_pack_15, g_X11_pack_16, g_X11_pack_17, g_X11_pack_18, g_X11_pack_19, g_X11_pack_22, g_X11_pack_25, g_X11_pack_28, g_X11_pack_29, g_X11_pack_30, g_X11_pack_33, g_X11_pack_36, g_X11_pack_39, g_X11_pack_41, g_X11_pack_42, g_X11_pack_44, g_X11_pack_47, g_X11_pack_48, g_X11_pack_51, g_X11_pack_53, lk_X11_pack, XI, Nat.reduceAdd, Nat.reduceEqDiff, not_false_eq_true, nI_T1, nI_T0, true_and, and_true, WC, WV, WU, rs_b_0, rs_b_ok2, true_or, or_true, Classical.not_not, not_true_eq_false, if_true, if_false, reduceCtorEq, s_X11_isWithin, hR, va_rf, k_St P n s I J R hq, cy, c1, c2, k_Ig P n s I J R hy, g_packCount n s I J R _ _ hy, nI_ltS, c3']
            exact hQ
          · obtain ⟨m1, m2, m3, m4, m5, m6, m7⟩ := h.1.2.1 i hi
            rw [em_X12_pack]
            simp (disch := omega) only [g_X12_pack_0, g_X12_pack_1, g_X12_pack_4, g_X12_pack_7, g_X12_pack_8, g_X12_pack_9, g_X12_pack_10, g_X12_pack_11, g_X12_pack_14, g_X12_pack_17, g_X12_pack_20, g_X12_pack_21, g_X12_pack_22, g_X12_pack_25, g_X12_pack_28, g_X12_pack_31, g_X12_pack_33, g_X12_pack_34, g_X12_pack_35, g_X12_pack_38, g_X12_pack_40, g_X12_pack_41, g_X12_pack_44, g_X12_pack_46, g_X12_pack_48, g_X12_pack_49, g_X12_pack_50, g_X12_pack_51, g_X12_pack_54, g_X12_pack_56, lk_X12_pack, XI, Nat.reduceAdd, Nat.reduceEqDiff, not_false_eq_true, nI_T1, nI_T0, true_and, and_true, WC, WV, WU, rs_b_0, rs_b_ok2, true_or, or_true, Classical.not_not, not_true_eq_false, if_true, if_false, reduceCtorEq, s_X12_isIngredient, s_X12_in, c0, c1, c2, s_X12_at, nI_addS, nI_cl, rs_in_t, m6, c3]
            exact hQ
        · have c3' : (D.ig i).pk.length < 3 := by omega
          have hg' : ((D.ig i).setPk ((D.ig i).pk ++ [(a, b)])).ok := by
            refine Ig.setPk_ok hg (by rw [List.length_append, List.length_singleton]; omega) ?_
            intro k p hk
            by_cases e : k < (D.ig i).pk.length
            · rw [List.getElem?_append_left e] at hk
              exact hg.2.2.2.2.2.2 k p hk
            · have hk2 := (List.getElem?_eq_some_iff.mp hk).1
              rw [List.length_append, List.length_singleton] at hk2
              rw [List.getElem?_append_right (by omega), show k - (D.ig i).pk.length = 0 by omega] at hk
              cases hk
              exact ⟨ha1, ha, hb⟩
          have hD' := Dt.setI_ok hS.1 (i := i) hg'
          refine ⟨D.setI i ((D.ig i).setPk ((D.ig i).pk ++ [(a, b)])), Ds, nxL L D, tp, rea, .int (nI (D.ig i).pk.length), nxL_ok hS hD', fun d P n s I J R Q h hQ => ?_, fun d P n s I J R Q g8 h hQ => ?_, Or.inl ⟨_, rfl⟩⟩
          · obtain ⟨q, hR, hq⟩ := h.2.1
            have h84 := h.1
            obtain ⟨y, hy, cy⟩ := g_ingredientAt hq hi
            rw [em_X11_pack]
            simp (disch := omega) only [g_X11_pack_0, g_X11_pack_1, g_X11_pack_4, g_X11_pack_5, g_X11_pack_8, g_X11_pack_10, g_X11_pack_12, g_X11_pack_15, g_X11_pack_16, g_X11_pack_17, g_X11_pack_18, g_X11_pack_19, g_X11_pack_22, g_X11_pack_25, g_X11_pack_28, g_X11_pack_29, g_X11_pack_30, g_X11_pack_33, g_X11_pack_36, g_X11_pack_39, g_X11_pack_41, g_X11_pack_42, g_X11_pack_44, g_X11_pack_47, g_X11_pack_48, g_X11_pack_51, g_X11_pack_53, g_X11_pack_54, g_X11_pack_56, lk_X11_pack, XI, Nat.reduceAdd, Nat.reduceEqDiff, not_false_eq_true, nI_T1, nI_T0, true_and, and_true, WC, WV, WU, rs_b_0, rs_b_ok2, true_or, or_true, Classical.not_not, not_true_eq_false, if_true, if_false, reduceCtorEq, s_X11_isWithin, hR, va_rf, k_St P n s I J R hq, cy, c1, c2, k_Ig P n s I J R hy, g_packCount n s I J R _ _ hy, nI_ltS, c3']
            refine s_X1_copy n s I J R (d + 57) _ h84 hy hg ?_
            intro P1 V Ua Uc o1 p1
            have kz : rs_isK ((sk_w P1 (n + 3) (s + 14) I J R).1 n) 0 ↔ True := by rw [sk_cP (n + 3) (s + 14) I J R o1.1]; exact rs_isK_s _ _ _
            simp (disch := omega) only [g_X11_pack_59, g_X11_pack_61, g_X11_pack_63, g_X11_pack_64, g_X11_pack_65, lk_X11_pack, XI, Nat.reduceAdd, Nat.reduceEqDiff, not_false_eq_true, nI_T1, nI_T0, true_and, and_true, WC, WV, WU, kz]
            refine s_addPack (n + 3) (s + 14) I J R _ _ o1 (by omega) (by omega) c3' a b ?_
            intro P2 V2 Ua2 Uc2 o2 p2
            simp (disch := omega) only [g_X11_pack_68, g_X11_pack_69, g_X11_pack_70, g_X11_pack_72, lk_X11_pack, XI, Nat.reduceAdd, Nat.reduceEqDiff, not_false_eq_true, nI_T1, nI_T0, true_and, and_true, WC, WV, WU]
            have hP2 : ∀ j, j < n → P2 j = P j := fun j hj => by rw [p2 j (by omega) (by omega) (by omega)]; exact p1 j hj
            refine s_replaceIngredient (n + 3) _ I J R (d + 56) _ hS h hP2 (by omega) hi (cIg_o.mpr ⟨_, _, _, _, _, o2⟩) ?_
            intro P' I' R' h' f' hP'
            have hy' := cIg_m (b' := n + 3) (fun j hj => (by rw [hP' j (by omega)]; exact hP2 j hj : P' j = P j)) (by omega) hy
            simp (disch := omega) only [g_X11_pack_75, g_X11_pack_77, g_X11_pack_80, lk_X11_pack, XI, Nat.reduceAdd, Nat.reduceEqDiff, not_false_eq_true, nI_T1, nI_T0, true_and, and_true, WC, WV, WU, k_Ig _ _ _ _ _ _ hy', g_packCount _ _ _ _ _ _ _ hy']
            exact hQ P' _ _ I' J R' h' f' (fC_r J) (by omega) (by omega)
          · obtain ⟨m1, m2, m3, m4, m5, m6, m7⟩ := h.1.2.1 i hi
            have hL := hS.2.2.1
            have k62 : ∀ j, kpI I L.length 62 j = I 62 j := fun j => kpI_ne I _ (by omega) (by decide)
            have c4 : ¬ nI (D.ig i).pk.length = nI 3 := fun z => c3 ((nI_eqS (by omega) (by omega)).mp z)
            have m6' := m6
            generalize hlen : (D.ig i).pk.length = len at *
            rw [em_X12_pack]
            simp (disch := omega) only [g_X12_pack_0, g_X12_pack_1, g_X12_pack_4, g_X12_pack_7, g_X12_pack_8, g_X12_pack_9, g_X12_pack_10, g_X12_pack_11, g_X12_pack_14, g_X12_pack_17, g_X12_pack_20, g_X12_pack_21, g_X12_pack_22, g_X12_pack_25, g_X12_pack_28, g_X12_pack_31, g_X12_pack_33, g_X12_pack_34, g_X12_pack_35, g_X12_pack_38, g_X12_pack_40, g_X12_pack_41, g_X12_pack_44, g_X12_pack_46, g_X12_pack_48, g_X12_pack_49, g_X12_pack_50, g_X12_pack_51, g_X12_pack_54, g_X12_pack_56, g_X12_pack_57, g_X12_pack_58, g_X12_pack_61, g_X12_pack_62, g_X12_pack_65, g_X12_pack_67, g_X12_pack_69, g_X12_pack_70, g_X12_pack_71, g_X12_pack_72, g_X12_pack_75, g_X12_pack_77, g_X12_pack_79, g_X12_pack_80, g_X12_pack_81, g_X12_pack_82, g_X12_pack_83, g_X12_pack_84, g_X12_pack_85, g_X12_pack_86, g_X12_pack_89, g_X12_pack_91, g_X12_pack_93, g_X12_pack_94, g_X12_pack_95, g_X12_pack_96, g_X12_pack_99, g_X12_pack_101, g_X12_pack_103, g_X12_pack_104, g_X12_pack_105, g_X12_pack_106, g_X12_pack_107, g_X12_pack_108, g_X12_pack_109, g_X12_pack_110, g_X12_pack_111, g_X12_pack_112, g_X12_pack_115, g_X12_pack_117, g_X12_pack_119, g_X12_pack_120, g_X12_pack_121, g_X12_pack_122, g_X12_pack_123, g_X12_pack_124, g_X12_pack_125, g_X12_pack_126, g_X12_pack_129, g_X12_pack_131, g_X12_pack_133, g_X12_pack_134, g_X12_pack_135, g_X12_pack_136, g_X12_pack_137, lk_X12_pack, XI, Nat.reduceAdd, Nat.reduceEqDiff, not_false_eq_true, nI_T1, nI_T0, true_and, and_true, WC, WV, WU, rs_b_0, rs_b_ok2, true_or, or_true, Classical.not_not, not_true_eq_false, if_true, if_false, reduceCtorEq, s_X12_isIngredient, s_X12_in, c0, c1, c2, s_X12_keep _ P n s I J R _ hL h.2.2.1, s_X12_at, nI_addS, nI_mulS, nI_cl, rs_in_t, k62, m6, c4, rs_u2_ne, rs_u2_eq, nI_subS, Nat.add_sub_cancel]
            have e : ∀ j, ¬ j = 240 + 14 * i + 8 + 2 * len → ¬ j = 240 + 14 * i + 8 + 2 * len + 1 → ¬ j = 240 + 14 * i + 7 → rs_u2 (rs_u2 (rs_u2 (kpI I L.length) 62 (240 + 14 * i + 8 + 2 * len) (nI a)) 62 (240 + 14 * i + 8 + 2 * len + 1) (nI b)) 62 (240 + 14 * i + 7) (nI (len + 1)) 62 j = I 62 j := fun j h1 h2 h3 => by rw [rs_u2_ne _ _ (by omega), rs_u2_ne _ _ (by omega), rs_u2_ne _ _ (by omega)]; exact k62 j
            refine hQ _ J (RI_keep hS h (mDt_I hS.1 hi (fun j hj => e j (by omega) (by omega) (by omega)) ⟨?_, ?_, ?_, ?_, ?_, ?_, ?_⟩ h.1) (fun q j h1 h2 => by rw [rs_u2_ne _ _ (by omega), rs_u2_ne _ _ (by omega), rs_u2_ne _ _ (by omega)])) (fR_u (fR_u (fR_u (kpI_R I _) (by decide)) (by decide)) (by decide)) (fR_r J)
            · exact mFr_c (fun j h1 h2 => e j (by omega) (by omega) (by omega)) m1
            · exact mFr_c (fun j h1 h2 => e j (by omega) (by omega) (by omega)) m2
            · rw [e _ (by omega) (by omega) (by omega)]; exact m3
            · rw [e _ (by omega) (by omega) (by omega)]; exact m4
            · rw [e _ (by omega) (by omega) (by omega)]; exact m5
            · rw [rs_u2_eq]
              show _ = nI ((D.ig i).pk ++ [(a, b)]).length
              rw [List.length_append, List.length_singleton, hlen]
            · intro k p hk
              have hk : ((D.ig i).pk ++ [(a, b)])[k]? = some p := hk
              by_cases e2 : k < len
              · rw [List.getElem?_append_left (by omega)] at hk
                rw [e _ (by omega) (by omega) (by omega), e _ (by omega) (by omega) (by omega)]
                exact m7 k p hk
              · have hk2 := (List.getElem?_eq_some_iff.mp hk).1
                rw [List.length_append, List.length_singleton] at hk2
                have e3 : k = len := by omega
                rw [List.getElem?_append_right (by omega), show k - (D.ig i).pk.length = 0 by omega] at hk
                cases hk
                subst e3
                rw [rs_u2_ne _ _ (by omega), rs_u2_ne _ _ (by omega), rs_u2_eq, rs_u2_ne _ _ (by omega), rs_u2_eq]
                exact ⟨rfl, rfl⟩
      · refine BC_same hS (.int (-2)) (Or.inl ⟨_, rfl⟩) (fun d P n s I J R Q h hQ => ?_) (fun d P n s I J R Q h hQ => ?_)
        · obtain ⟨q, hR, hq⟩ := h.2.1
          obtain ⟨y, hy, cy⟩ := g_ingredientAt hq hi
          rw [em_X11_pack]
          simp (disch := omega) only [g_X11_pack_0, g_X11_pack_1, g_X11_pack_4, g_X11_pack_5, g_X11_pack_8, g_X11_pack_10, g_X11_pack_12, g_X11_pack_15, g_X11_pack_16, g_X11_pack_17, g_X11_pack_18, g_X11_pack_19, g_X11_pack_22, g_X11_pack_25, g_X11_pack_28, g_X11_pack_29, g_X11_pack_30, g_X11_pack_33, g_X11_pack_36, g_X11_pack_39, g_X11_pack_41, lk_X11_pack, XI, Nat.reduceAdd, Nat.reduceEqDiff, not_false_eq_true, nI_T1, nI_T0, true_and, and_true, WC, WV, WU, rs_b_0, rs_b_ok2, true_or, or_true, Classical.not_not, not_true_eq_false, if_true, if_false, reduceCtorEq, s_X11_isIngredient, s_X11_isRecipe, s_X11_isWithin, s_X11_isPart, hR, va_rf, k_St P n s I J R hq, cy, c1, c2]
          exact hQ
        · rw [em_X12_pack]
          simp (disch := omega) only [g_X12_pack_0, g_X12_pack_1, g_X12_pack_4, g_X12_pack_7, g_X12_pack_8, g_X12_pack_9, g_X12_pack_10, g_X12_pack_11, g_X12_pack_14, g_X12_pack_17, g_X12_pack_20, g_X12_pack_21, g_X12_pack_22, g_X12_pack_25, g_X12_pack_28, g_X12_pack_31, g_X12_pack_33, lk_X12_pack, XI, Nat.reduceAdd, Nat.reduceEqDiff, not_false_eq_true, nI_T1, nI_T0, true_and, and_true, WC, WV, WU, rs_b_0, rs_b_ok2, true_or, or_true, Classical.not_not, not_true_eq_false, if_true, if_false, reduceCtorEq, s_X12_isIngredient, s_X12_isNumber, s_X12_in, c0, c1, c2]
          exact hQ
    · refine BC_same hS (.int (-2)) (Or.inl ⟨_, rfl⟩) (fun d P n s I J R Q h hQ => ?_) (fun d P n s I J R Q h hQ => ?_)
      · obtain ⟨q, hR, hq⟩ := h.2.1
        obtain ⟨y, hy, cy⟩ := g_ingredientAt hq hi
        rw [em_X11_pack]
        simp (disch := omega) only [g_X11_pack_0, g_X11_pack_1, g_X11_pack_4, g_X11_pack_5, g_X11_pack_8, g_X11_pack_10, g_X11_pack_12, g_X11_pack_15, g_X11_pack_16, g_X11_pack_17, g_X11_pack_18, g_X11_pack_19, g_X11_pack_22, g_X11_pack_25, g_X11_pack_28, g_X11_pack_29, g_X11_pack_30, g_X11_pack_33, g_X11_pack_36, g_X11_pack_39, g_X11_pack_41, lk_X11_pack, XI, Nat.reduceAdd, Nat.reduceEqDiff, not_false_eq_true, nI_T1, nI_T0, true_and, and_true, WC, WV, WU, rs_b_0, rs_b_ok2, true_or, or_true, Classical.not_not, not_true_eq_false, if_true, if_false, reduceCtorEq, s_X11_isIngredient, s_X11_isRecipe, s_X11_isWithin, s_X11_isPart, hR, va_rf, k_St P n s I J R hq, cy, c1]
        exact hQ
      · rw [em_X12_pack]
        simp (disch := omega) only [g_X12_pack_0, g_X12_pack_1, g_X12_pack_4, g_X12_pack_7, g_X12_pack_8, g_X12_pack_9, g_X12_pack_10, g_X12_pack_11, g_X12_pack_14, g_X12_pack_17, g_X12_pack_20, g_X12_pack_21, g_X12_pack_22, g_X12_pack_25, g_X12_pack_28, g_X12_pack_31, g_X12_pack_33, lk_X12_pack, XI, Nat.reduceAdd, Nat.reduceEqDiff, not_false_eq_true, nI_T1, nI_T0, true_and, and_true, WC, WV, WU, rs_b_0, rs_b_ok2, true_or, or_true, Classical.not_not, not_true_eq_false, if_true, if_false, reduceCtorEq, s_X12_isIngredient, s_X12_isNumber, s_X12_in, c0, c1]
        exact hQ
  · refine BC_same hS (.int (-1)) (Or.inl ⟨_, rfl⟩) (fun d P n s I J R Q h hQ => ?_) (fun d P n s I J R Q h hQ => ?_)
    · obtain ⟨q, hR, hq⟩ := h.2.1
      rw [em_X11_pack]
      simp (disch := omega) only [g_X11_pack_0, g_X11_pack_1, g_X11_pack_4, g_X11_pack_5, g_X11_pack_8, g_X11_pack_10, g_X11_pack_12, g_X11_pack_15, g_X11_pack_16, lk_X11_pack, XI, Nat.reduceAdd, Nat.reduceEqDiff, not_false_eq_true, nI_T1, nI_T0, true_and, and_true, WC, WV, WU, rs_b_0, rs_b_ok2, true_or, or_true, Classical.not_not, not_true_eq_false, if_true, if_false, reduceCtorEq, s_X11_isIngredient, s_X11_isRecipe, s_X11_isWithin, s_X11_isPart, hR, va_rf, k_St P n s I J R hq, g_ingredientAt_o n s _ _ R _ _ hq c0]
      exact hQ
    · rw [em_X12_pack]
      simp (disch := omega) only [g_X12_pack_0, g_X12_pack_1, g_X12_pack_4, g_X12_pack_7, g_X12_pack_8, lk_X12_pack, XI, Nat.reduceAdd, Nat.reduceEqDiff, not_false_eq_true, nI_T1, nI_T0, true_and, and_true, WC, WV, WU, rs_b_0, rs_b_ok2, true_or, or_true, Classical.not_not, not_true_eq_false, if_true, if_false, reduceCtorEq, s_X12_isIngredient, s_X12_isNumber, s_X12_in, c0]
      exact hQ
end
