/-! a plan by a pan -/
section
variable {D : Dt} {Ds : Option Dt} {L : List Dt} {tp : List Nat} {rea : Int32}
theorem b_pan (hS : SOk D Ds L tp) (x0 x1 : Int32) : BC yX11_pan yX12_pan [.int x0, .int x1] D Ds L tp rea := by
  by_cases c0 : nI 0 ≤ x0 ∧ x0 ≤ nI 7
  · obtain ⟨r, -, hr0, rfl⟩ := (nI_within (by decide) (by decide)).mp c0
    have hr : r < 8 := by omega
    cases hz : D.rc r with
    | none =>
      refine BC_same hS (.int (-3)) (Or.inl ⟨_, rfl⟩) (fun d P n s I J R Q h hQ => ?_) (fun d P n s I J R Q h hQ => ?_)
      · obtain ⟨q, hR, hq⟩ := h.2.1
        rw [em_X11_pan]
        simp (disch := omega) only [g_X11_pan_0, g_X11_pan_1, g_X11_pan_4, g_X11_pan_7, g_X11_pan_8, g_X11_pan_9, g_X11_pan_10, g_X11_pan_13, g_X11_pan_14, g_X11_pan_17, g_X11_pan_18, g_X11_pan_19, g_X11_pan_22, g_X11_pan_23, g_X11_pan_26, g_X11_pan_29, g_X11_pan_31, lk_X11_pan, XI, Nat.reduceAdd, Nat.reduceEqDiff, not_false_eq_true, nI_T1, nI_T0, true_and, and_true, WC, WV, WU, rs_b_0, rs_b_ok2, true_or, or_true, Classical.not_not, not_true_eq_false, if_true, if_false, reduceCtorEq, s_X11_isRecipe, c0, hR, va_rf, k_St P n s I J R hq, g_recipeAt_n n s I J R hq hr hz]
        exact hQ
      · have e : ¬ I 62 (30 * r) = nI 1 := fun z => ((s_rowIsThere h.1 hr).mp z) hz
        rw [em_X12_pan]
        simp (disch := omega) only [g_X12_pan_0, g_X12_pan_1, g_X12_pan_4, g_X12_pan_7, g_X12_pan_8, g_X12_pan_9, g_X12_pan_10, g_X12_pan_11, g_X12_pan_14, g_X12_pan_17, g_X12_pan_18, g_X12_pan_21, g_X12_pan_23, g_X12_pan_24, g_X12_pan_25, g_X12_pan_26, g_X12_pan_27, g_X12_pan_28, g_X12_pan_31, g_X12_pan_33, lk_X12_pan, XI, Nat.reduceAdd, Nat.reduceEqDiff, not_false_eq_true, nI_T1, nI_T0, true_and, and_true, WC, WV, WU, rs_b_0, rs_b_ok2, true_or, or_true, Classical.not_not, not_true_eq_false, if_true, if_false, reduceCtorEq, s_X12_isNumber, c0, s_X12_isThere, e]
        exact hQ
    | some Z =>
      have he : ∀ I : Nat → Nat → Int32, mDt (I 62) D → I 62 (30 * r) = nI 1 := fun I hM => (s_rowIsThere hM hr).mpr (by rw [hz]; intro z; cases z)
      have he5 : ∀ I : Nat → Nat → Int32, mDt (I 62) D → I 62 (30 * r + 5) = nI Z.pan := fun I hM => by
        have h1 := hM.1 r hr
        rw [hz] at h1
        exact h1.2.2.2.2.2.1
      have hZ := (hS.1.1 r Z hz).2
      have hpan := hZ.2.2.2.2.2.2
      by_cases cp : Z.pan = 0
      · refine BC_same hS (.int (-3)) (Or.inl ⟨_, rfl⟩) (fun d P n s I J R Q h hQ => ?_) (fun d P n s I J R Q h hQ => ?_)
        · obtain ⟨q, hR, hq⟩ := h.2.1
          obtain ⟨y, hy, cy⟩ := g_recipeAt_s hq hr hz
          obtain ⟨V, i, U, h1, h2, v0, v1, v2, v3, v4, un, us⟩ := id hy
          rw [em_X11_pan]
          simp (disch := omega) only [g_X11_pan_0, g_X11_pan_1, g_X11_pan_4, g_X11_pan_7, g_X11_pan_8, g_X11_pan_9, g_X11_pan_10, g_X11_pan_13, g_X11_pan_14, g_X11_pan_17, g_X11_pan_18, g_X11_pan_19, g_X11_pan_22, g_X11_pan_23, g_X11_pan_26, g_X11_pan_29, g_X11_pan_31, lk_X11_pan, XI, Nat.reduceAdd, Nat.reduceEqDiff, not_false_eq_true, nI_T1, nI_T0, true_and, and_true, WC, WV, WU, rs_b_0, rs_b_ok2, true_or, or_true, Classical.not_not, not_true_eq_false, if_true, if_false, reduceCtorEq, s_X11_isRecipe, c0, hR, va_rf, k_St P n s I J R hq, cy, sk_cP n s I J R h1, v4, cp, nI_00]
          exact hQ
        · rw [em_X12_pan]
          simp (disch := omega) only [g_X12_pan_0, g_X12_pan_1, g_X12_pan_4, g_X12_pan_7, g_X12_pan_8, g_X12_pan_9, g_X12_pan_10, g_X12_pan_11, g_X12_pan_14, g_X12_pan_17, g_X12_pan_18, g_X12_pan_21, g_X12_pan_23, g_X12_pan_24, g_X12_pan_25, g_X12_pan_26, g_X12_pan_27, g_X12_pan_28, g_X12_pan_31, g_X12_pan_33, lk_X12_pan, XI, Nat.reduceAdd, Nat.reduceEqDiff, not_false_eq_true, nI_T1, nI_T0, true_and, and_true, WC, WV, WU, rs_b_0, rs_b_ok2, true_or, or_true, Classical.not_not, not_true_eq_false, if_true, if_false, reduceCtorEq, s_X12_isNumber, c0, s_X12_isThere, he I h.1, nI_mulS, nI_addS, nI_cl, rs_in_t, he5 I h.1, cp, nI_00]
          exact hQ
      · by_cases c1 : nI 1 ≤ x1 ∧ x1 ≤ nI 9999
        · obtain ⟨a, ha1, ha, rfl⟩ := (nI_within (by decide) (by decide)).mp c1
          obtain ⟨f, hfr, hF, hD'⟩ := fr_pl hr ha1 ha (show 1 ≤ Z.pan by omega) (show Z.pan ≤ 9999 by omega) hS.1
          refine ⟨D.setP (some (r, f)), Ds, nxL L D, tp, reaD (D.setP (some (r, f))) rea, .int (rs_b (whyD (D.setP (some (r, f))) = 0)), nxL_ok hS hD', fun d P n s I J R Q h hQ => ?_, fun d P n s I J R Q g8 h hQ => ?_, Or.inl ⟨_, rfl⟩⟩
          · obtain ⟨q, hR, hq⟩ := h.2.1
            have h84 := h.1
            obtain ⟨y, hy, cy⟩ := g_recipeAt_s hq hr hz
            obtain ⟨V, i, U, h1, h2, v0, v1, v2, v3, v4, un, us⟩ := id hy
            rw [em_X11_pan]
            simp (disch := omega) only [g_X11_pan_0, g_X11_pan_1, g_X11_pan_4, g_X11_pan_7, g_X11_pan_8, g_X11_pan_9, g_X11_pan_10, g_X11_pan_13, g_X11_pan_14, g_X11_pan_17, g_X11_pan_18, g_X11_pan_19, g_X11_pan_22, g_X11_pan_23, g_X11_pan_26, g_X11_pan_29, g_X11_pan_31, g_X11_pan_32, g_X11_pan_33, g_X11_pan_34, g_X11_pan_37, g_X11_pan_40, g_X11_pan_43, g_X11_pan_45, g_X11_pan_46, g_X11_pan_47, g_X11_pan_48, g_X11_pan_51, g_X11_pan_52, g_X11_pan_53, g_X11_pan_54, g_X11_pan_55, g_X11_pan_58, g_X11_pan_59, g_X11_pan_62, lk_X11_pan, XI, Nat.reduceAdd, Nat.reduceEqDiff, not_false_eq_true, nI_T1, nI_T0, true_and, and_true, WC, WV, WU, rs_b_0, rs_b_ok2, true_or, or_true, Classical.not_not, not_true_eq_false, if_true, if_false, reduceCtorEq, s_X11_isRecipe, s_X11_isWithin, c0, c1, hR, va_rf, k_St P n s I J R hq, cy, sk_cP n s I J R h1, v4, nI_eq0S, cp, nI_long (show a ≤ 1000000000 by omega), nI_long (show Z.pan ≤ 1000000000 by omega), s_X0_of _ _ _ (show a < 2 ^ 63 by omega) (show 1 ≤ Z.pan by omega) (show Z.pan ≤ 1000000000000000000 by omega), hfr, pkO_s]
            refine s_withPlan n s I J R (d + 56) _ h84 hq (cPl_s r f) ?_
            intro P1 V Ua Uc Ue o1 p1
            simp (disch := omega) only [g_X11_pan_65, lk_X11_pan, XI, Nat.reduceAdd, Nat.reduceEqDiff, not_false_eq_true, nI_T1, nI_T0, true_and, and_true, WC, WV, WU]
            refine s_commit (n + 4) _ I J R _ _ hS h p1 (by omega) (cSt_o.mpr ⟨_, _, _, _, _, _, _, o1⟩) ?_
            intro I' R' h' f'
            simp (disch := omega) only [g_X11_pan_68, g_X11_pan_69, lk_X11_pan, XI, Nat.reduceAdd, Nat.reduceEqDiff, not_false_eq_true, nI_T1, nI_T0, true_and, and_true, WC, WV, WU]
            refine c_findPlan P1 (n + 4) (s + 31) I' J R' (d + 36) _ hD' h' ?_
            intro I2 J2 h2 f2 f3 hv
            have hQ' := hQ P1 (n + 4) (s + 31) I2 J2 R' h2 (fC_t f' f2) f3 (by omega) (by omega)
            by_cases hw : whyD (D.setP (some (r, f))) = 0
            · rw [rs_b_t hw] at hQ'
              simp (disch := omega) only [g_X11_pan_72, g_X11_pan_75, g_X11_pan_76, g_X11_pan_79, g_X11_pan_80, lk_X11_pan, XI, Nat.reduceAdd, Nat.reduceEqDiff, not_false_eq_true, nI_T1, nI_T0, true_and, and_true, WC, WV, WU, rs_b_0, rs_b_ok2, true_or, or_true, Classical.not_not, not_true_eq_false, if_true, if_false, reduceCtorEq, hw]
              exact hQ'
            · rw [rs_b_f hw] at hQ'
              simp (disch := omega) only [g_X11_pan_72, g_X11_pan_75, g_X11_pan_76, g_X11_pan_79, g_X11_pan_80, lk_X11_pan, XI, Nat.reduceAdd, Nat.reduceEqDiff, not_false_eq_true, nI_T1, nI_T0, true_and, and_true, WC, WV, WU, rs_b_0, rs_b_ok2, true_or, or_true, Classical.not_not, not_true_eq_false, if_true, if_false, reduceCtorEq, hw]
              exact hQ'
          · rw [em_X12_pan]
            simp (disch := omega) only [g_X12_pan_0, g_X12_pan_1, g_X12_pan_4, g_X12_pan_7, g_X12_pan_8, g_X12_pan_9, g_X12_pan_10, g_X12_pan_11, g_X12_pan_14, g_X12_pan_17, g_X12_pan_18, g_X12_pan_21, g_X12_pan_23, g_X12_pan_24, g_X12_pan_25, g_X12_pan_26, g_X12_pan_27, g_X12_pan_28, g_X12_pan_31, g_X12_pan_33, g_X12_pan_34, g_X12_pan_35, g_X12_pan_36, g_X12_pan_39, g_X12_pan_42, g_X12_pan_45, g_X12_pan_46, g_X12_pan_47, g_X12_pan_48, g_X12_pan_49, g_X12_pan_52, g_X12_pan_54, g_X12_pan_55, g_X12_pan_56, g_X12_pan_57, g_X12_pan_58, g_X12_pan_59, lk_X12_pan, XI, Nat.reduceAdd, Nat.reduceEqDiff, not_false_eq_true, nI_T1, nI_T0, true_and, and_true, WC, WV, WU, rs_b_0, rs_b_ok2, true_or, or_true, Classical.not_not, not_true_eq_false, if_true, if_false, reduceCtorEq, s_X12_isNumber, s_X12_in, c0, c1, s_X12_isThere, he I h.1, nI_mulS, nI_addS, nI_cl, rs_in_t, he5 I h.1, nI_eq0S, cp]
            refine r_plans hS hr ha1 ha (show 1 ≤ Z.pan by omega) (show Z.pan ≤ 9999 by omega) hfr (d + 53) P n s I J R _ g8 h hD' ?_
            intro I' J' h' f1 f2
            simp (disch := omega) only [g_X12_pan_62, g_X12_pan_65, g_X12_pan_67, lk_X12_pan, XI, Nat.reduceAdd, Nat.reduceEqDiff, not_false_eq_true, nI_T1, nI_T0, true_and, and_true, WC, WV, WU]
            exact hQ I' J' h' f1 f2
        · refine BC_same hS (.int (-2)) (Or.inl ⟨_, rfl⟩) (fun d P n s I J R Q h hQ => ?_) (fun d P n s I J R Q h hQ => ?_)
          · obtain ⟨q, hR, hq⟩ := h.2.1
            obtain ⟨y, hy, cy⟩ := g_recipeAt_s hq hr hz
            obtain ⟨V, i, U, h1, h2, v0, v1, v2, v3, v4, un, us⟩ := id hy
            rw [em_X11_pan]
            simp (disch := omega) only [g_X11_pan_0, g_X11_pan_1, g_X11_pan_4, g_X11_pan_7, g_X11_pan_8, g_X11_pan_9, g_X11_pan_10, g_X11_pan_13, g_X11_pan_14, g_X11_pan_17, g_X11_pan_18, g_X11_pan_19, g_X11_pan_22, g_X11_pan_23, g_X11_pan_26, g_X11_pan_29, g_X11_pan_31, g_X11_pan_32, g_X11_pan_33, g_X11_pan_34, g_X11_pan_37, g_X11_pan_40, g_X11_pan_43, g_X11_pan_45, lk_X11_pan, XI, Nat.reduceAdd, Nat.reduceEqDiff, not_false_eq_true, nI_T1, nI_T0, true_and, and_true, WC, WV, WU, rs_b_0, rs_b_ok2, true_or, or_true, Classical.not_not, not_true_eq_false, if_true, if_false, reduceCtorEq, s_X11_isRecipe, s_X11_isWithin, c0, c1, hR, va_rf, k_St P n s I J R hq, cy, sk_cP n s I J R h1, v4, nI_eq0S, cp]
            exact hQ
          · rw [em_X12_pan]
            simp (disch := omega) only [g_X12_pan_0, g_X12_pan_1, g_X12_pan_4, g_X12_pan_7, g_X12_pan_8, g_X12_pan_9, g_X12_pan_10, g_X12_pan_11, g_X12_pan_14, g_X12_pan_17, g_X12_pan_18, g_X12_pan_21, g_X12_pan_23, g_X12_pan_24, g_X12_pan_25, g_X12_pan_26, g_X12_pan_27, g_X12_pan_28, g_X12_pan_31, g_X12_pan_33, g_X12_pan_34, g_X12_pan_35, g_X12_pan_36, g_X12_pan_39, g_X12_pan_42, g_X12_pan_45, g_X12_pan_46, g_X12_pan_47, g_X12_pan_48, g_X12_pan_49, g_X12_pan_52, g_X12_pan_54, g_X12_pan_55, g_X12_pan_56, g_X12_pan_57, g_X12_pan_58, g_X12_pan_59, g_X12_pan_62, g_X12_pan_65, g_X12_pan_67, lk_X12_pan, XI, Nat.reduceAdd, Nat.reduceEqDiff, not_false_eq_true, nI_T1, nI_T0, true_and, and_true, WC, WV, WU, rs_b_0, rs_b_ok2, true_or, or_true, Classical.not_not, not_true_eq_false, if_true, if_false, reduceCtorEq, s_X12_isNumber, s_X12_in, c0, c1, s_X12_isThere, he I h.1, nI_mulS, nI_addS, nI_cl, rs_in_t, he5 I h.1, nI_eq0S, cp]
            exact hQ
  · refine BC_same hS (.int (-1)) (Or.inl ⟨_, rfl⟩) (fun d P n s I J R Q h hQ => ?_) (fun d P n s I J R Q h hQ => ?_)
    · rw [em_X11_pan]
      simp (disch := omega) only [g_X11_pan_0, g_X11_pan_1, g_X11_pan_4, g_X11_pan_7, g_X11_pan_8, lk_X11_pan, XI, Nat.reduceAdd, Nat.reduceEqDiff, not_false_eq_true, nI_T1, nI_T0, true_and, and_true, WC, WV, WU, rs_b_0, rs_b_ok2, true_or, or_true, Classical.not_not, not_true_eq_false, if_true, if_false, reduceCtorEq, s_X11_isIngredient, s_X11_isRecipe, s_X11_isWithin, s_X11_isPart, c0]
      exact hQ
    · rw [em_X12_pan]
      simp (disch := omega) only [g_X12_pan_0, g_X12_pan_1, g_X12_pan_4, g_X12_pan_7, g_X12_pan_8, lk_X12_pan, XI, Nat.reduceAdd, Nat.reduceEqDiff, not_false_eq_true, nI_T1, nI_T0, true_and, and_true, WC, WV, WU, rs_b_0, rs_b_ok2, true_or, or_true, Classical.not_not, not_true_eq_false, if_true, if_false, reduceCtorEq, s_X12_isIngredient, s_X12_isNumber, s_X12_in, c0]
      exact hQ
end
/-! substitutions counted, dropped, made -/
section
variable {P : Nat → Option rs_C} (n s : Nat) (I : Nat → Nat → Int32) (J : Nat → Nat → Int64) (R : Nat → Nat → Option Nat) (d : Nat) (Q : rs_H → Option Value → Prop)
theorem X7_scount_l {b x e : Nat} {D : Dt} (hD : D.ok) {U : Nat → Value} (hi : cP P b e (19, 6, U)) (un : ∀ k, k < 6 → D.sb[k]? = none → U k = .null) (us : ∀ k t, k < 6 → D.sb[k]? = some t → ∃ x, U k = .ref x ∧ cSb P b x t) : ∀ (m k : Nat) (z5 : Option Value), k + m = 6 → (rs_X d yX7_substitutionCount 13 [some (.ref x), some (.int (nI (min k D.sb.length))), some (.ref e), some (.int (nI 6)), some (.int (nI k)), z5] [] (sk_w P n s I J R) Q ↔ Q (sk_w P n s I J R) (some (.int (nI D.sb.length)))) := by
  intro m
  induction m with
  | zero =>
    intro k z5 hk
    have : k = 6 := by omega
    subst this
    have hl := hD.2.2.1
    rw [g_X7_substitutionCount_13]
    simp (disch := omega) only [g_X7_substitutionCount_15, g_X7_substitutionCount_16, lk_X7_substitutionCount, g_X7_substitutionCount_39, g_X7_substitutionCount_40, lk_X7_substitutionCount, XI, Nat.reduceAdd, Nat.reduceEqDiff, not_false_eq_true, nI_T1, nI_T0, true_and, and_true, WC, WV, WU, nI_leS, Nat.le_refl, if_true]
    rw [show min 6 D.sb.length = D.sb.length by omega]
  | succ m ih =>
    intro k z5 hk
    have hl := hD.2.2.1
    rw [g_X7_substitutionCount_13]
    cases hs : D.sb[k]? with
    | none =>
      have h1 : D.sb.length ≤ k := List.getElem?_eq_none_iff.mp hs
      have h2 := ih (k + 1) (some .null) (by omega)
      rw [show min (k + 1) D.sb.length = min k D.sb.length by omega] at h2
      simp (disch := omega) only [g_X7_substitutionCount_15, g_X7_substitutionCount_16, g_X7_substitutionCount_19, g_X7_substitutionCount_20, g_X7_substitutionCount_22, g_X7_substitutionCount_23, g_X7_substitutionCount_25, g_X7_substitutionCount_27, g_X7_substitutionCount_30, g_X7_substitutionCount_33, g_X7_substitutionCount_36, lk_X7_substitutionCount, XI, Nat.reduceAdd, Nat.reduceEqDiff, not_false_eq_true, nI_T1, nI_T0, true_and, and_true, WC, WV, WU, nI_leS, sk_cP n s I J R hi, nI_cl, rs_in_t, un k (by omega) hs, nI_addS]
      rw [if_neg (by omega)]
      exact h2
    | some t =>
      have h1 := (List.getElem?_eq_some_iff.mp hs).1
      obtain ⟨y, hy, cy⟩ := us k t (by omega) hs
      have h2 := ih (k + 1) (some (.ref y)) (by omega)
      rw [show min (k + 1) D.sb.length = min k D.sb.length + 1 by omega] at h2
      simp (disch := omega) only [g_X7_substitutionCount_15, g_X7_substitutionCount_16, g_X7_substitutionCount_19, g_X7_substitutionCount_20, g_X7_substitutionCount_22, g_X7_substitutionCount_23, g_X7_substitutionCount_25, g_X7_substitutionCount_27, g_X7_substitutionCount_30, g_X7_substitutionCount_33, g_X7_substitutionCount_36, lk_X7_substitutionCount, XI, Nat.reduceAdd, Nat.reduceEqDiff, not_false_eq_true, nI_T1, nI_T0, true_and, and_true, WC, WV, WU, nI_leS, sk_cP n s I J R hi, nI_cl, rs_in_t, hy, nI_addS]
      rw [if_neg (by omega)]
      exact h2
theorem s_scount {b q : Nat} {D : Dt} (hq : cSt P b q D) (hD : D.ok) : rs_XM d yX7_substitutionCount [.ref q] (sk_w P n s I J R) Q ↔ Q (sk_w P n s I J R) (some (.int (nI D.sb.length))) := by
  obtain ⟨V, a, c, e, Ua, Uc, Ue, h1, h2, h3, h4, v0, v1, v2, h5, h6, h7, h8, h9, h10⟩ := hq
  rw [em_X7_substitutionCount]
  simp (disch := omega) only [g_X7_substitutionCount_0, g_X7_substitutionCount_1, g_X7_substitutionCount_2, g_X7_substitutionCount_3, g_X7_substitutionCount_6, g_X7_substitutionCount_7, g_X7_substitutionCount_8, g_X7_substitutionCount_9, g_X7_substitutionCount_10, g_X7_substitutionCount_11, lk_X7_substitutionCount, XI, Nat.reduceAdd, Nat.reduceEqDiff, not_false_eq_true, nI_T1, nI_T0, true_and, and_true, WC, WV, WU, sk_cP n s I J R h1, sk_cP n s I J R h4, v2]
  have h := X7_scount_l n s I J R d Q hD h4 h9 h10 (x := q) 6 0 none rfl
  rw [Nat.zero_min] at h
  exact h
/-- a substitution is put -/
theorem p_sub {q a c e : Nat} {V Ua Uc Ue : Nat → Value} {D : Dt} (h : oSt P n q a c e V Ua Uc Ue D) (h0 : ¬ e = 0) {i : Nat} (hi : i < 6) (o : Option Nat) (l : List Sb) (hl : ∀ k, ¬ k = i → l[k]? = D.sb[k]?) (hn : l[i]? = none → o = none) (hs : ∀ X, l[i]? = some X → ∃ x, o = some x ∧ cSb P n x X) (hQ : oSt (va_up P e (some (19, 6, va_up Ue i (va_rf o)))) n q a c e V Ua Uc (va_up Ue i (va_rf o)) (D.setS l) → Q (sk_w (va_up P e (some (19, 6, va_up Ue i (va_rf o)))) n s I J R) none) : rs_XM d yX7_putSubstitution [.ref q, .int (nI i), va_rf o] (sk_w P n s I J R) Q := by
  obtain ⟨h1, h2, h3, h4, v0, v1, v2, h5, h6, h7, h8, h9, h10⟩ := h
  have hk : 17 ≤ ((19, 6, Ue) : rs_C).1 ∨ ((19, 6, Ue) : rs_C).1 = 15 ∨ ((19, 6, Ue) : rs_C).1 = 6 := Or.inl (show 17 ≤ 19 by decide)
  have hp := r_putSubstitution (P := P) n s I J R d Q h1.2.1 h1.2.2 v2 h4.2.1 h4.2.2 h0 hi (o := o) (fun y hy => by
    cases hz : l[i]? with
    | none => rw [hn hz] at hy; cases hy
    | some X =>
      obtain ⟨x, hx, Vx, ⟨z1, z2, z3⟩, _⟩ := hs X hz
      rw [hx] at hy
      cases hy
      exact ⟨z2, _, z3, rfl⟩)
  refine hp.mpr (hQ ⟨cP_k h4.2.2 _ (show ¬ 6 = 19 by decide) h1, cP_k h4.2.2 _ (show ¬ 17 = 19 by decide) h2, cP_k h4.2.2 _ (show ¬ 15 = 19 by decide) h3, ⟨h4.1, h4.2.1, vu_eq _ _ _⟩, v0, v1, v2, h5, h6, ?_, ?_, ?_, ?_⟩)
  · intro r X hr hz
    obtain ⟨y, hy, cy⟩ := h7 r X hr hz
    exact ⟨y, hy, cRc_k h4.2.2 _ hk cy⟩
  · intro j hj
    obtain ⟨y, hy, cy⟩ := h8 j hj
    exact ⟨y, hy, cIg_k h4.2.2 _ hk cy⟩
  · intro k hk2 ht
    have ht : l[k]? = none := ht
    by_cases e2 : k = i
    · rw [e2] at ht
      rw [e2, vu_eq, hn ht]
      rfl
    · rw [vu_ne _ _ e2]
      exact h9 k hk2 (by rw [← hl k e2]; exact ht)
  · intro k t hk2 ht
    have ht : l[k]? = some t := ht
    by_cases e2 : k = i
    · rw [e2] at ht
      obtain ⟨x, hx, cx⟩ := hs t ht
      rw [e2, vu_eq, hx]
      exact ⟨x, rfl, cSb_k h4.2.2 _ hk cx⟩
    · rw [vu_ne _ _ e2]
      obtain ⟨y, hy, cy⟩ := h10 k t hk2 (by rw [← hl k e2]; exact ht)
      exact ⟨y, hy, cSb_k h4.2.2 _ hk cy⟩
end
