/-! questions about recipes, items, counts -/
section
variable {P : Nat → Option rs_C} {b : Nat} (n s : Nat) (I : Nat → Nat → Int32) (J : Nat → Nat → Int64) (R : Nat → Nat → Option Nat) (d : Nat) (Q : rs_H → Option Value → Prop)
theorem g_itemAt_s {x r : Nat} {Z : Rc} (h : cRc P b x r Z) {k : Nat} (hk : k < 6) {t : It} (ht : Z.its[k]? = some t) : ∃ y, cIt P b y t ∧ ∀ n s I J R (d : Nat) (Q : rs_H → Option Value → Prop), rs_XM d yX5_itemAt [.ref x, .int (nI k)] (sk_w P n s I J R) Q ↔ Q (sk_w P n s I J R) (some (.ref y)) := by
  obtain ⟨V, i, U, h1, h2, v0, v1, v2, v3, v4, un, us⟩ := h
  obtain ⟨y, hy, cy⟩ := us k t hk ht
  refine ⟨y, cy, ?_⟩
  intro n s I J R d Q
  rw [em_X5_itemAt]
  simp (disch := omega) only [K_X5_itemAt, lk_X5_itemAt, XI, Nat.reduceAdd, Nat.reduceEqDiff, not_false_eq_true, nI_T1, nI_T0, true_and, and_true, WC, WV, WU, sk_cP n s I J R h1, sk_cP n s I J R h2, v1, nI_lt0S, nI_leS, nI_cl, rs_in_t, hy, if_false]
  rw [if_neg (by omega)]
theorem g_itemAt_o {x r : Nat} {Z : Rc} (h : cRc P b x r Z) {i : Int32} (hx : ¬ ∃ k, k < Z.its.length ∧ i = nI k) : rs_XM d yX5_itemAt [.ref x, .int i] (sk_w P n s I J R) Q ↔ Q (sk_w P n s I J R) (some .null) := by
  obtain ⟨V, a, U, h1, h2, v0, v1, v2, v3, v4, un, us⟩ := h
  rw [em_X5_itemAt]
  by_cases hi : nI 0 ≤ i ∧ i ≤ nI 5
  · obtain ⟨k, -, hk, rfl⟩ := (nI_within (by decide) (by decide)).mp hi
    have hn := un k (by omega) (List.getElem?_eq_none_iff.mpr (Nat.le_of_not_lt (fun z => hx ⟨k, z, rfl⟩)))
    simp (disch := omega) only [K_X5_itemAt, lk_X5_itemAt, XI, Nat.reduceAdd, Nat.reduceEqDiff, not_false_eq_true, nI_T1, nI_T0, true_and, and_true, WC, WV, WU, sk_cP n s I J R h1, sk_cP n s I J R h2, v1, nI_lt0S, nI_leS, nI_cl, rs_in_t, hn, if_false]
    rw [if_neg (by omega)]
  · rcases x_out (by decide) hi with e | ⟨e1, e2, e3⟩
    · simp (disch := omega) only [K_X5_itemAt, lk_X5_itemAt, XI, Nat.reduceAdd, Nat.reduceEqDiff, not_false_eq_true, nI_T1, nI_T0, true_and, and_true, WC, WV, WU, e, if_true]
    · simp (disch := omega) only [K_X5_itemAt, lk_X5_itemAt, XI, Nat.reduceAdd, Nat.reduceEqDiff, not_false_eq_true, nI_T1, nI_T0, true_and, and_true, WC, WV, WU, sk_cP n s I J R h1, sk_cP n s I J R h2, v1, e1, e2, if_true, if_false]
end
section
variable {D : Dt} {Ds : Option Dt} {L : List Dt} {tp : List Nat} {rea : Int32}
theorem b_recipe (hS : SOk D Ds L tp) (x0 x1 : Int32) : BC yX11_recipe yX12_recipe [.int x0, .int x1] D Ds L tp rea := by
  by_cases c0 : nI 0 ≤ x0 ∧ x0 ≤ nI 7
  · by_cases c1 : nI 0 ≤ x1 ∧ x1 ≤ nI 7
    · obtain ⟨r, -, hr0, rfl⟩ := (nI_within (by decide) (by decide)).mp c0
      obtain ⟨w, -, hw, rfl⟩ := (nI_within (by decide) (by decide)).mp c1
      have hr : r < 8 := by omega
      cases hz : D.rc r with
      | none =>
        refine BC_same hS (.int (-3)) (Or.inl ⟨_, rfl⟩) (fun d P n s I J R Q h hQ => ?_) (fun d P n s I J R Q h hQ => ?_)
        · obtain ⟨q, hR, hq⟩ := h.2.1
          rw [em_X11_recipe]
          simp (disch := omega) only [g_X11_recipe_0, g_X11_recipe_1, g_X11_recipe_4, g_X11_recipe_7, g_X11_recipe_8, g_X11_recipe_9, g_X11_recipe_11, g_X11_recipe_14, g_X11_recipe_17, g_X11_recipe_18, g_X11_recipe_19, g_X11_recipe_20, g_X11_recipe_23, g_X11_recipe_24, g_X11_recipe_27, g_X11_recipe_28, g_X11_recipe_29, g_X11_recipe_32, g_X11_recipe_34, lk_X11_recipe, XI, Nat.reduceAdd, Nat.reduceEqDiff, not_false_eq_true, nI_T1, nI_T0, true_and, and_true, WC, WV, WU, rs_b_0, rs_b_ok2, true_or, or_true, Classical.not_not, not_true_eq_false, if_true, if_false, reduceCtorEq, s_X11_isRecipe, s_X11_isWithin, c0, c1, hR, va_rf, k_St P n s I J R hq, g_recipeAt_n n s I J R hq hr hz]
          exact hQ
        · have e : ¬ I 62 (30 * r) = nI 1 := fun z => ((s_rowIsThere h.1 hr).mp z) hz
          rw [em_X12_recipe]
          simp (disch := omega) only [g_X12_recipe_0, g_X12_recipe_1, g_X12_recipe_4, g_X12_recipe_7, g_X12_recipe_8, g_X12_recipe_9, g_X12_recipe_11, g_X12_recipe_14, g_X12_recipe_17, g_X12_recipe_18, g_X12_recipe_19, g_X12_recipe_20, g_X12_recipe_21, g_X12_recipe_24, g_X12_recipe_27, g_X12_recipe_29, lk_X12_recipe, XI, Nat.reduceAdd, Nat.reduceEqDiff, not_false_eq_true, nI_T1, nI_T0, true_and, and_true, WC, WV, WU, rs_b_0, rs_b_ok2, true_or, or_true, Classical.not_not, not_true_eq_false, if_true, if_false, reduceCtorEq, s_X12_isNumber, s_X12_in, c0, c1, s_X12_isThere, e]
          exact hQ
      | some Z =>
        have he : ∀ I : Nat → Nat → Int32, mDt (I 62) D → I 62 (30 * r) = nI 1 := fun I hM => (s_rowIsThere hM hr).mpr (by rw [hz]; intro z; cases z)
        have hZ := (hS.1.1 r Z hz).2
        have hyl := hZ.2.2.2.1
        have ed : diR D r = dK Z.its 6 := by unfold diR; rw [hz]
        have hrow : ∀ I : Nat → Nat → Int32, mDt (I 62) D → mRc (I 62) r (some Z) := fun I hM => by
          have := hM.1 r hr
          rw [hz] at this
          exact this
        have w8 : w = 0 ∨ w = 1 ∨ w = 2 ∨ w = 3 ∨ w = 4 ∨ w = 5 ∨ w = 6 ∨ w = 7 := by omega
        rcases w8 with e | e | e | e | e | e | e | e
        · subst e
          refine BC_same hS (.int (nI Z.its.length)) (Or.inl ⟨_, rfl⟩) (fun d P n s I J R Q h hQ => ?_) (fun d P n s I J R Q h hQ => ?_)
          · obtain ⟨q, hR, hq⟩ := h.2.1
            obtain ⟨y, hy, cy⟩ := g_recipeAt_s hq hr hz
            obtain ⟨V, i, U, h1, h2, v0, v1, v2, v3, v4, un, us⟩ := id hy
            rw [em_X11_recipe]
            simp (disch := omega) only [g_X11_recipe_0, g_X11_recipe_1, g_X11_recipe_4, g_X11_recipe_7, g_X11_recipe_8, g_X11_recipe_9, g_X11_recipe_11, g_X11_recipe_14, g_X11_recipe_17, g_X11_recipe_18, g_X11_recipe_19, g_X11_recipe_20, g_X11_recipe_23, g_X11_recipe_24, g_X11_recipe_27, g_X11_recipe_28, g_X11_recipe_29, g_X11_recipe_32, g_X11_recipe_34, g_X11_recipe_35, g_X11_recipe_36, g_X11_recipe_80, g_X11_recipe_81, g_X11_recipe_84, g_X11_recipe_85, g_X11_recipe_86, g_X11_recipe_89, g_X11_recipe_92, g_X11_recipe_93, g_X11_recipe_94, g_X11_recipe_97, g_X11_recipe_100, g_X11_recipe_101, g_X11_recipe_102, g_X11_recipe_105, g_X11_recipe_106, g_X11_recipe_107, g_X11_recipe_110, g_X11_recipe_113, g_X11_recipe_115, g_X11_recipe_118, g_X11_recipe_119, g_X11_recipe_122, g_X11_recipe_123, g_X11_recipe_124, g_X11_recipe_127, g_X11_recipe_128, g_X11_recipe_129, g_X11_recipe_132, g_X11_recipe_133, g_X11_recipe_136, g_X11_recipe_137, g_X11_recipe_138, g_X11_recipe_141, g_X11_recipe_142, g_X11_recipe_145, lk_X11_recipe, XI, Nat.reduceAdd, Nat.reduceEqDiff, not_false_eq_true, nI_T1, nI_T0, true_and, and_true, WC, WV, WU, rs_b_0, rs_b_ok2, true_or, or_true, Classical.not_not, not_true_eq_false, if_true, if_false, reduceCtorEq, s_X11_isRecipe, s_X11_isWithin, c0, c1, hR, va_rf, k_St P n s I J R hq, cy, nI_eqS, Nat.reduceEqDiff, k_Rc P n s I J R hy, sk_cP n s I J R h1, v2, v3, v4, s_itemCount n s I J R _ _ hy hZ]
            exact hQ
          · rw [em_X12_recipe]
            simp (disch := omega) only [g_X12_recipe_0, g_X12_recipe_1, g_X12_recipe_4, g_X12_recipe_7, g_X12_recipe_8, g_X12_recipe_9, g_X12_recipe_11, g_X12_recipe_14, g_X12_recipe_17, g_X12_recipe_18, g_X12_recipe_19, g_X12_recipe_20, g_X12_recipe_21, g_X12_recipe_24, g_X12_recipe_27, g_X12_recipe_29, g_X12_recipe_30, g_X12_recipe_31, g_X12_recipe_60, g_X12_recipe_61, g_X12_recipe_64, g_X12_recipe_66, g_X12_recipe_67, g_X12_recipe_68, g_X12_recipe_69, g_X12_recipe_70, g_X12_recipe_71, g_X12_recipe_74, g_X12_recipe_76, g_X12_recipe_79, g_X12_recipe_80, g_X12_recipe_83, g_X12_recipe_85, g_X12_recipe_86, g_X12_recipe_87, g_X12_recipe_88, g_X12_recipe_89, g_X12_recipe_90, g_X12_recipe_91, g_X12_recipe_92, g_X12_recipe_93, g_X12_recipe_96, g_X12_recipe_97, g_X12_recipe_98, g_X12_recipe_99, g_X12_recipe_102, g_X12_recipe_103, g_X12_recipe_104, g_X12_recipe_105, g_X12_recipe_108, g_X12_recipe_109, g_X12_recipe_110, g_X12_recipe_113, g_X12_recipe_115, g_X12_recipe_116, g_X12_recipe_117, g_X12_recipe_118, g_X12_recipe_119, g_X12_recipe_120, g_X12_recipe_121, g_X12_recipe_122, lk_X12_recipe, XI, Nat.reduceAdd, Nat.reduceEqDiff, not_false_eq_true, nI_T1, nI_T0, true_and, and_true, WC, WV, WU, rs_b_0, rs_b_ok2, true_or, or_true, Classical.not_not, not_true_eq_false, if_true, if_false, reduceCtorEq, s_X12_isNumber, s_X12_in, c0, c1, s_X12_isThere, he I h.1, nI_eqS, Nat.reduceEqDiff, nI_mulS, nI_addS, nI_cl, rs_in_t, (hrow I h.1).2.1, Nat.add_zero]
            exact hQ
        · subst e
          refine BC_same hS (.int (nI Z.yl.1)) (Or.inl ⟨_, rfl⟩) (fun d P n s I J R Q h hQ => ?_) (fun d P n s I J R Q h hQ => ?_)
          · obtain ⟨q, hR, hq⟩ := h.2.1
            obtain ⟨y, hy, cy⟩ := g_recipeAt_s hq hr hz
            obtain ⟨V, i, U, h1, h2, v0, v1, v2, v3, v4, un, us⟩ := id hy
            rw [em_X11_recipe]
            simp (disch := omega) only [g_X11_recipe_0, g_X11_recipe_1, g_X11_recipe_4, g_X11_recipe_7, g_X11_recipe_8, g_X11_recipe_9, g_X11_recipe_11, g_X11_recipe_14, g_X11_recipe_17, g_X11_recipe_18, g_X11_recipe_19, g_X11_recipe_20, g_X11_recipe_23, g_X11_recipe_24, g_X11_recipe_27, g_X11_recipe_28, g_X11_recipe_29, g_X11_recipe_32, g_X11_recipe_34, g_X11_recipe_35, g_X11_recipe_36, g_X11_recipe_80, g_X11_recipe_81, g_X11_recipe_84, g_X11_recipe_85, g_X11_recipe_86, g_X11_recipe_89, g_X11_recipe_92, g_X11_recipe_93, g_X11_recipe_94, g_X11_recipe_97, g_X11_recipe_100, g_X11_recipe_101, g_X11_recipe_102, g_X11_recipe_105, g_X11_recipe_106, g_X11_recipe_107, g_X11_recipe_110, g_X11_recipe_113, g_X11_recipe_115, g_X11_recipe_118, g_X11_recipe_119, g_X11_recipe_122, g_X11_recipe_123, g_X11_recipe_124, g_X11_recipe_127, g_X11_recipe_128, g_X11_recipe_129, g_X11_recipe_132, g_X11_recipe_133, g_X11_recipe_136, g_X11_recipe_137, g_X11_recipe_138, g_X11_recipe_141, g_X11_recipe_142, g_X11_recipe_145, lk_X11_recipe, XI, Nat.reduceAdd, Nat.reduceEqDiff, not_false_eq_true, nI_T1, nI_T0, true_and, and_true, WC, WV, WU, rs_b_0, rs_b_ok2, true_or, or_true, Classical.not_not, not_true_eq_false, if_true, if_false, reduceCtorEq, s_X11_isRecipe, s_X11_isWithin, c0, c1, hR, va_rf, k_St P n s I J R hq, cy, nI_eqS, Nat.reduceEqDiff, k_Rc P n s I J R hy, sk_cP n s I J R h1, v2, v3, v4, s_X0_up _ _ _ hyl]
            exact hQ
          · rw [em_X12_recipe]
            simp (disch := omega) only [g_X12_recipe_0, g_X12_recipe_1, g_X12_recipe_4, g_X12_recipe_7, g_X12_recipe_8, g_X12_recipe_9, g_X12_recipe_11, g_X12_recipe_14, g_X12_recipe_17, g_X12_recipe_18, g_X12_recipe_19, g_X12_recipe_20, g_X12_recipe_21, g_X12_recipe_24, g_X12_recipe_27, g_X12_recipe_29, g_X12_recipe_30, g_X12_recipe_31, g_X12_recipe_60, g_X12_recipe_61, g_X12_recipe_64, g_X12_recipe_66, g_X12_recipe_67, g_X12_recipe_68, g_X12_recipe_69, g_X12_recipe_70, g_X12_recipe_71, g_X12_recipe_74, g_X12_recipe_76, g_X12_recipe_79, g_X12_recipe_80, g_X12_recipe_83, g_X12_recipe_85, g_X12_recipe_86, g_X12_recipe_87, g_X12_recipe_88, g_X12_recipe_89, g_X12_recipe_90, g_X12_recipe_91, g_X12_recipe_92, g_X12_recipe_93, g_X12_recipe_96, g_X12_recipe_97, g_X12_recipe_98, g_X12_recipe_99, g_X12_recipe_102, g_X12_recipe_103, g_X12_recipe_104, g_X12_recipe_105, g_X12_recipe_108, g_X12_recipe_109, g_X12_recipe_110, g_X12_recipe_113, g_X12_recipe_115, g_X12_recipe_116, g_X12_recipe_117, g_X12_recipe_118, g_X12_recipe_119, g_X12_recipe_120, g_X12_recipe_121, g_X12_recipe_122, lk_X12_recipe, XI, Nat.reduceAdd, Nat.reduceEqDiff, not_false_eq_true, nI_T1, nI_T0, true_and, and_true, WC, WV, WU, rs_b_0, rs_b_ok2, true_or, or_true, Classical.not_not, not_true_eq_false, if_true, if_false, reduceCtorEq, s_X12_isNumber, s_X12_in, c0, c1, s_X12_isThere, he I h.1, nI_eqS, Nat.reduceEqDiff, nI_mulS, nI_addS, nI_cl, rs_in_t, (hrow I h.1).2.2.1, Nat.add_assoc]
            exact hQ
        · subst e
          refine BC_same hS (.int (nI Z.yl.2)) (Or.inl ⟨_, rfl⟩) (fun d P n s I J R Q h hQ => ?_) (fun d P n s I J R Q h hQ => ?_)
          · obtain ⟨q, hR, hq⟩ := h.2.1
            obtain ⟨y, hy, cy⟩ := g_recipeAt_s hq hr hz
            obtain ⟨V, i, U, h1, h2, v0, v1, v2, v3, v4, un, us⟩ := id hy
            rw [em_X11_recipe]
            simp (disch := omega) only [g_X11_recipe_0, g_X11_recipe_1, g_X11_recipe_4, g_X11_recipe_7, g_X11_recipe_8, g_X11_recipe_9, g_X11_recipe_11, g_X11_recipe_14, g_X11_recipe_17, g_X11_recipe_18, g_X11_recipe_19, g_X11_recipe_20, g_X11_recipe_23, g_X11_recipe_24, g_X11_recipe_27, g_X11_recipe_28, g_X11_recipe_29, g_X11_recipe_32, g_X11_recipe_34, g_X11_recipe_35, g_X11_recipe_36, g_X11_recipe_80, g_X11_recipe_81, g_X11_recipe_84, g_X11_recipe_85, g_X11_recipe_86, g_X11_recipe_89, g_X11_recipe_92, g_X11_recipe_93, g_X11_recipe_94, g_X11_recipe_97, g_X11_recipe_100, g_X11_recipe_101, g_X11_recipe_102, g_X11_recipe_105, g_X11_recipe_106, g_X11_recipe_107, g_X11_recipe_110, g_X11_recipe_113, g_X11_recipe_115, g_X11_recipe_118, g_X11_recipe_119, g_X11_recipe_122, g_X11_recipe_123, g_X11_recipe_124, g_X11_recipe_127, g_X11_recipe_128, g_X11_recipe_129, g_X11_recipe_132, g_X11_recipe_133, g_X11_recipe_136, g_X11_recipe_137, g_X11_recipe_138, g_X11_recipe_141, g_X11_recipe_142, g_X11_recipe_145, lk_X11_recipe, XI, Nat.reduceAdd, Nat.reduceEqDiff, not_false_eq_true, nI_T1, nI_T0, true_and, and_true, WC, WV, WU, rs_b_0, rs_b_ok2, true_or, or_true, Classical.not_not, not_true_eq_false, if_true, if_false, reduceCtorEq, s_X11_isRecipe, s_X11_isWithin, c0, c1, hR, va_rf, k_St P n s I J R hq, cy, nI_eqS, Nat.reduceEqDiff, k_Rc P n s I J R hy, sk_cP n s I J R h1, v2, v3, v4, s_X0_down _ _ _ hyl]
            exact hQ
          · rw [em_X12_recipe]
            simp (disch := omega) only [g_X12_recipe_0, g_X12_recipe_1, g_X12_recipe_4, g_X12_recipe_7, g_X12_recipe_8, g_X12_recipe_9, g_X12_recipe_11, g_X12_recipe_14, g_X12_recipe_17, g_X12_recipe_18, g_X12_recipe_19, g_X12_recipe_20, g_X12_recipe_21, g_X12_recipe_24, g_X12_recipe_27, g_X12_recipe_29, g_X12_recipe_30, g_X12_recipe_31, g_X12_recipe_60, g_X12_recipe_61, g_X12_recipe_64, g_X12_recipe_66, g_X12_recipe_67, g_X12_recipe_68, g_X12_recipe_69, g_X12_recipe_70, g_X12_recipe_71, g_X12_recipe_74, g_X12_recipe_76, g_X12_recipe_79, g_X12_recipe_80, g_X12_recipe_83, g_X12_recipe_85, g_X12_recipe_86, g_X12_recipe_87, g_X12_recipe_88, g_X12_recipe_89, g_X12_recipe_90, g_X12_recipe_91, g_X12_recipe_92, g_X12_recipe_93, g_X12_recipe_96, g_X12_recipe_97, g_X12_recipe_98, g_X12_recipe_99, g_X12_recipe_102, g_X12_recipe_103, g_X12_recipe_104, g_X12_recipe_105, g_X12_recipe_108, g_X12_recipe_109, g_X12_recipe_110, g_X12_recipe_113, g_X12_recipe_115, g_X12_recipe_116, g_X12_recipe_117, g_X12_recipe_118, g_X12_recipe_119, g_X12_recipe_120, g_X12_recipe_121, g_X12_recipe_122, lk_X12_recipe, XI, Nat.reduceAdd, Nat.reduceEqDiff, not_false_eq_true, nI_T1, nI_T0, true_and, and_true, WC, WV, WU, rs_b_0, rs_b_ok2, true_or, or_true, Classical.not_not, not_true_eq_false, if_true, if_false, reduceCtorEq, s_X12_isNumber, s_X12_in, c0, c1, s_X12_isThere, he I h.1, nI_eqS, Nat.reduceEqDiff, nI_mulS, nI_addS, nI_cl, rs_in_t, (hrow I h.1).2.2.2.1, Nat.add_assoc]
            exact hQ
        · subst e
          refine BC_same hS (.int (nI Z.un)) (Or.inl ⟨_, rfl⟩) (fun d P n s I J R Q h hQ => ?_) (fun d P n s I J R Q h hQ => ?_)
          · obtain ⟨q, hR, hq⟩ := h.2.1
            obtain ⟨y, hy, cy⟩ := g_recipeAt_s hq hr hz
            obtain ⟨V, i, U, h1, h2, v0, v1, v2, v3, v4, un, us⟩ := id hy
            rw [em_X11_recipe]
            simp (disch := omega) only [g_X11_recipe_0, g_X11_recipe_1, g_X11_recipe_4, g_X11_recipe_7, g_X11_recipe_8, g_X11_recipe_9, g_X11_recipe_11, g_X11_recipe_14, g_X11_recipe_17, g_X11_recipe_18, g_X11_recipe_19, g_X11_recipe_20, g_X11_recipe_23, g_X11_recipe_24, g_X11_recipe_27, g_X11_recipe_28, g_X11_recipe_29, g_X11_recipe_32, g_X11_recipe_34, g_X11_recipe_35, g_X11_recipe_36, g_X11_recipe_80, g_X11_recipe_81, g_X11_recipe_84, g_X11_recipe_85, g_X11_recipe_86, g_X11_recipe_89, g_X11_recipe_92, g_X11_recipe_93, g_X11_recipe_94, g_X11_recipe_97, g_X11_recipe_100, g_X11_recipe_101, g_X11_recipe_102, g_X11_recipe_105, g_X11_recipe_106, g_X11_recipe_107, g_X11_recipe_110, g_X11_recipe_113, g_X11_recipe_115, g_X11_recipe_118, g_X11_recipe_119, g_X11_recipe_122, g_X11_recipe_123, g_X11_recipe_124, g_X11_recipe_127, g_X11_recipe_128, g_X11_recipe_129, g_X11_recipe_132, g_X11_recipe_133, g_X11_recipe_136, g_X11_recipe_137, g_X11_recipe_138, g_X11_recipe_141, g_X11_recipe_142, g_X11_recipe_145, lk_X11_recipe, XI, Nat.reduceAdd, Nat.reduceEqDiff, not_false_eq_true, nI_T1, nI_T0, true_and, and_true, WC, WV, WU, rs_b_0, rs_b_ok2, true_or, or_true, Classical.not_not, not_true_eq_false, if_true, if_false, reduceCtorEq, s_X11_isRecipe, s_X11_isWithin, c0, c1, hR, va_rf, k_St P n s I J R hq, cy, nI_eqS, Nat.reduceEqDiff, k_Rc P n s I J R hy, sk_cP n s I J R h1, v2, v3, v4, nI_00]
            exact hQ
          · rw [em_X12_recipe]
            simp (disch := omega) only [g_X12_recipe_0, g_X12_recipe_1, g_X12_recipe_4, g_X12_recipe_7, g_X12_recipe_8, g_X12_recipe_9, g_X12_recipe_11, g_X12_recipe_14, g_X12_recipe_17, g_X12_recipe_18, g_X12_recipe_19, g_X12_recipe_20, g_X12_recipe_21, g_X12_recipe_24, g_X12_recipe_27, g_X12_recipe_29, g_X12_recipe_30, g_X12_recipe_31, g_X12_recipe_60, g_X12_recipe_61, g_X12_recipe_64, g_X12_recipe_66, g_X12_recipe_67, g_X12_recipe_68, g_X12_recipe_69, g_X12_recipe_70, g_X12_recipe_71, g_X12_recipe_74, g_X12_recipe_76, g_X12_recipe_79, g_X12_recipe_80, g_X12_recipe_83, g_X12_recipe_85, g_X12_recipe_86, g_X12_recipe_87, g_X12_recipe_88, g_X12_recipe_89, g_X12_recipe_90, g_X12_recipe_91, g_X12_recipe_92, g_X12_recipe_93, g_X12_recipe_96, g_X12_recipe_97, g_X12_recipe_98, g_X12_recipe_99, g_X12_recipe_102, g_X12_recipe_103, g_X12_recipe_104, g_X12_recipe_105, g_X12_recipe_108, g_X12_recipe_109, g_X12_recipe_110, g_X12_recipe_113, g_X12_recipe_115, g_X12_recipe_116, g_X12_recipe_117, g_X12_recipe_118, g_X12_recipe_119, g_X12_recipe_120, g_X12_recipe_121, g_X12_recipe_122, lk_X12_recipe, XI, Nat.reduceAdd, Nat.reduceEqDiff, not_false_eq_true, nI_T1, nI_T0, true_and, and_true, WC, WV, WU, rs_b_0, rs_b_ok2, true_or, or_true, Classical.not_not, not_true_eq_false, if_true, if_false, reduceCtorEq, s_X12_isNumber, s_X12_in, c0, c1, s_X12_isThere, he I h.1, nI_eqS, Nat.reduceEqDiff, nI_mulS, nI_addS, nI_cl, rs_in_t, (hrow I h.1).2.2.2.2.1, Nat.add_assoc]
            exact hQ
        · subst e
          by_cases cp : Z.pan = 0
          · refine BC_same hS (.int (-5)) (Or.inl ⟨_, rfl⟩) (fun d P n s I J R Q h hQ => ?_) (fun d P n s I J R Q h hQ => ?_)
            · obtain ⟨q, hR, hq⟩ := h.2.1
              obtain ⟨y, hy, cy⟩ := g_recipeAt_s hq hr hz
              obtain ⟨V, i, U, h1, h2, v0, v1, v2, v3, v4, un, us⟩ := id hy
              rw [em_X11_recipe]
              simp (disch := omega) only [g_X11_recipe_0, g_X11_recipe_1, g_X11_recipe_4, g_X11_recipe_7, g_X11_recipe_8, g_X11_recipe_9, g_X11_recipe_11, g_X11_recipe_14, g_X11_recipe_17, g_X11_recipe_18, g_X11_recipe_19, g_X11_recipe_20, g_X11_recipe_23, g_X11_recipe_24, g_X11_recipe_27, g_X11_recipe_28, g_X11_recipe_29, g_X11_recipe_32, g_X11_recipe_34, g_X11_recipe_35, g_X11_recipe_36, g_X11_recipe_80, g_X11_recipe_81, g_X11_recipe_84, g_X11_recipe_85, g_X11_recipe_86, g_X11_recipe_89, g_X11_recipe_92, g_X11_recipe_93, g_X11_recipe_94, g_X11_recipe_97, g_X11_recipe_100, g_X11_recipe_101, g_X11_recipe_102, g_X11_recipe_105, g_X11_recipe_106, g_X11_recipe_107, g_X11_recipe_110, g_X11_recipe_113, g_X11_recipe_115, g_X11_recipe_118, g_X11_recipe_119, g_X11_recipe_122, g_X11_recipe_123, g_X11_recipe_124, g_X11_recipe_127, g_X11_recipe_128, g_X11_recipe_129, g_X11_recipe_132, g_X11_recipe_133, g_X11_recipe_136, g_X11_recipe_137, g_X11_recipe_138, g_X11_recipe_141, g_X11_recipe_142, g_X11_recipe_145, lk_X11_recipe, XI, Nat.reduceAdd, Nat.reduceEqDiff, not_false_eq_true, nI_T1, nI_T0, true_and, and_true, WC, WV, WU, rs_b_0, rs_b_ok2, true_or, or_true, Classical.not_not, not_true_eq_false, if_true, if_false, reduceCtorEq, s_X11_isRecipe, s_X11_isWithin, c0, c1, hR, va_rf, k_St P n s I J R hq, cy, nI_eqS, Nat.reduceEqDiff, k_Rc P n s I J R hy, sk_cP n s I J R h1, v2, v3, v4, cp, nI_00]
              exact hQ
            · rw [em_X12_recipe]
              simp (disch := omega) only [g_X12_recipe_0, g_X12_recipe_1, g_X12_recipe_4, g_X12_recipe_7, g_X12_recipe_8, g_X12_recipe_9, g_X12_recipe_11, g_X12_recipe_14, g_X12_recipe_17, g_X12_recipe_18, g_X12_recipe_19, g_X12_recipe_20, g_X12_recipe_21, g_X12_recipe_24, g_X12_recipe_27, g_X12_recipe_29, g_X12_recipe_30, g_X12_recipe_31, g_X12_recipe_60, g_X12_recipe_61, g_X12_recipe_64, g_X12_recipe_66, g_X12_recipe_67, g_X12_recipe_68, g_X12_recipe_69, g_X12_recipe_70, g_X12_recipe_71, g_X12_recipe_74, g_X12_recipe_76, g_X12_recipe_79, g_X12_recipe_80, g_X12_recipe_83, g_X12_recipe_85, g_X12_recipe_86, g_X12_recipe_87, g_X12_recipe_88, g_X12_recipe_89, g_X12_recipe_90, g_X12_recipe_91, g_X12_recipe_92, g_X12_recipe_93, g_X12_recipe_96, g_X12_recipe_97, g_X12_recipe_98, g_X12_recipe_99, g_X12_recipe_102, g_X12_recipe_103, g_X12_recipe_104, g_X12_recipe_105, g_X12_recipe_108, g_X12_recipe_109, g_X12_recipe_110, g_X12_recipe_113, g_X12_recipe_115, g_X12_recipe_116, g_X12_recipe_117, g_X12_recipe_118, g_X12_recipe_119, g_X12_recipe_120, g_X12_recipe_121, g_X12_recipe_122, lk_X12_recipe, XI, Nat.reduceAdd, Nat.reduceEqDiff, not_false_eq_true, nI_T1, nI_T0, true_and, and_true, WC, WV, WU, rs_b_0, rs_b_ok2, true_or, or_true, Classical.not_not, not_true_eq_false, if_true, if_false, reduceCtorEq, s_X12_isNumber, s_X12_in, c0, c1, s_X12_isThere, he I h.1, nI_eqS, Nat.reduceEqDiff, nI_mulS, nI_addS, nI_cl, rs_in_t, (hrow I h.1).2.2.2.2.2.1, cp, nI_00]
              exact hQ
          · have hpan := hZ.2.2.2.2.2.2
            refine BC_same hS (.int (nI Z.pan)) (Or.inl ⟨_, rfl⟩) (fun d P n s I J R Q h hQ => ?_) (fun d P n s I J R Q h hQ => ?_)
            · obtain ⟨q, hR, hq⟩ := h.2.1
              obtain ⟨y, hy, cy⟩ := g_recipeAt_s hq hr hz
              obtain ⟨V, i, U, h1, h2, v0, v1, v2, v3, v4, un, us⟩ := id hy
              rw [em_X11_recipe]
              simp (disch := omega) only [g_X11_recipe_0, g_X11_recipe_1, g_X11_recipe_4, g_X11_recipe_7, g_X11_recipe_8, g_X11_recipe_9, g_X11_recipe_11, g_X11_recipe_14, g_X11_recipe_17, g_X11_recipe_18, g_X11_recipe_19, g_X11_recipe_20, g_X11_recipe_23, g_X11_recipe_24, g_X11_recipe_27, g_X11_recipe_28, g_X11_recipe_29, g_X11_recipe_32, g_X11_recipe_34, g_X11_recipe_35, g_X11_recipe_36, g_X11_recipe_80, g_X11_recipe_81, g_X11_recipe_84, g_X11_recipe_85, g_X11_recipe_86, g_X11_recipe_89, g_X11_recipe_92, g_X11_recipe_93, g_X11_recipe_94, g_X11_recipe_97, g_X11_recipe_100, g_X11_recipe_101, g_X11_recipe_102, g_X11_recipe_105, g_X11_recipe_106, g_X11_recipe_107, g_X11_recipe_110, g_X11_recipe_113, g_X11_recipe_115, g_X11_recipe_118, g_X11_recipe_119, g_X11_recipe_122, g_X11_recipe_123, g_X11_recipe_124, g_X11_recipe_127, g_X11_recipe_128, g_X11_recipe_129, g_X11_recipe_132, g_X11_recipe_133, g_X11_recipe_136, g_X11_recipe_137, g_X11_recipe_138, g_X11_recipe_141, g_X11_recipe_142, g_X11_recipe_145, lk_X11_recipe, XI, Nat.reduceAdd, Nat.reduceEqDiff, not_false_eq_true, nI_T1, nI_T0, true_and, and_true, WC, WV, WU, rs_b_0, rs_b_ok2, true_or, or_true, Classical.not_not, not_true_eq_false, if_true, if_false, reduceCtorEq, s_X11_isRecipe, s_X11_isWithin, c0, c1, hR, va_rf, k_St P n s I J R hq, cy, nI_eqS, Nat.reduceEqDiff, k_Rc P n s I J R hy, sk_cP n s I J R h1, v2, v3, v4, cp, nI_eq0S]
              exact hQ
            · rw [em_X12_recipe]
              simp (disch := omega) only [g_X12_recipe_0, g_X12_recipe_1, g_X12_recipe_4, g_X12_recipe_7, g_X12_recipe_8, g_X12_recipe_9, g_X12_recipe_11, g_X12_recipe_14, g_X12_recipe_17, g_X12_recipe_18, g_X12_recipe_19, g_X12_recipe_20, g_X12_recipe_21, g_X12_recipe_24, g_X12_recipe_27, g_X12_recipe_29, g_X12_recipe_30, g_X12_recipe_31, g_X12_recipe_60, g_X12_recipe_61, g_X12_recipe_64, g_X12_recipe_66, g_X12_recipe_67, g_X12_recipe_68, g_X12_recipe_69, g_X12_recipe_70, g_X12_recipe_71, g_X12_recipe_74, g_X12_recipe_76, g_X12_recipe_79, g_X12_recipe_80, g_X12_recipe_83, g_X12_recipe_85, g_X12_recipe_86, g_X12_recipe_87, g_X12_recipe_88, g_X12_recipe_89, g_X12_recipe_90, g_X12_recipe_91, g_X12_recipe_92, g_X12_recipe_93, g_X12_recipe_96, g_X12_recipe_97, g_X12_recipe_98, g_X12_recipe_99, g_X12_recipe_102, g_X12_recipe_103, g_X12_recipe_104, g_X12_recipe_105, g_X12_recipe_108, g_X12_recipe_109, g_X12_recipe_110, g_X12_recipe_113, g_X12_recipe_115, g_X12_recipe_116, g_X12_recipe_117, g_X12_recipe_118, g_X12_recipe_119, g_X12_recipe_120, g_X12_recipe_121, g_X12_recipe_122, lk_X12_recipe, XI, Nat.reduceAdd, Nat.reduceEqDiff, not_false_eq_true, nI_T1, nI_T0, true_and, and_true, WC, WV, WU, rs_b_0, rs_b_ok2, true_or, or_true, Classical.not_not, not_true_eq_false, if_true, if_false, reduceCtorEq, s_X12_isNumber, s_X12_in, c0, c1, s_X12_isThere, he I h.1, nI_eqS, Nat.reduceEqDiff, nI_mulS, nI_addS, nI_cl, rs_in_t, (hrow I h.1).2.2.2.2.2.1, cp, nI_eq0S]
              exact hQ
        · subst e
          refine BC_same hS (.int (nI (dK Z.its 6))) (Or.inl ⟨_, rfl⟩) (fun d P n s I J R Q h hQ => ?_) (fun d P n s I J R Q h hQ => ?_)
          · obtain ⟨q, hR, hq⟩ := h.2.1
            obtain ⟨y, hy, cy⟩ := g_recipeAt_s hq hr hz
            obtain ⟨V, i, U, h1, h2, v0, v1, v2, v3, v4, un, us⟩ := id hy
            rw [em_X11_recipe]
            simp (disch := omega) only [g_X11_recipe_0, g_X11_recipe_1, g_X11_recipe_4, g_X11_recipe_7, g_X11_recipe_8, g_X11_recipe_9, g_X11_recipe_11, g_X11_recipe_14, g_X11_recipe_17, g_X11_recipe_18, g_X11_recipe_19, g_X11_recipe_20, g_X11_recipe_23, g_X11_recipe_24, g_X11_recipe_27, g_X11_recipe_28, g_X11_recipe_29, g_X11_recipe_32, g_X11_recipe_34, g_X11_recipe_35, g_X11_recipe_36, g_X11_recipe_80, g_X11_recipe_81, g_X11_recipe_84, g_X11_recipe_85, g_X11_recipe_86, g_X11_recipe_89, g_X11_recipe_92, g_X11_recipe_93, g_X11_recipe_94, g_X11_recipe_97, g_X11_recipe_100, g_X11_recipe_101, g_X11_recipe_102, g_X11_recipe_105, g_X11_recipe_106, g_X11_recipe_107, g_X11_recipe_110, g_X11_recipe_113, g_X11_recipe_115, g_X11_recipe_118, g_X11_recipe_119, g_X11_recipe_122, g_X11_recipe_123, g_X11_recipe_124, g_X11_recipe_127, g_X11_recipe_128, g_X11_recipe_129, g_X11_recipe_132, g_X11_recipe_133, g_X11_recipe_136, g_X11_recipe_137, g_X11_recipe_138, g_X11_recipe_141, g_X11_recipe_142, g_X11_recipe_145, lk_X11_recipe, XI, Nat.reduceAdd, Nat.reduceEqDiff, not_false_eq_true, nI_T1, nI_T0, true_and, and_true, WC, WV, WU, rs_b_0, rs_b_ok2, true_or, or_true, Classical.not_not, not_true_eq_false, if_true, if_false, reduceCtorEq, s_X11_isRecipe, s_X11_isWithin, c0, c1, hR, va_rf, k_St P n s I J R hq, cy, nI_eqS, Nat.reduceEqDiff, k_Rc P n s I J R hy, sk_cP n s I J R h1, v2, v3, v4, s_recipeSet5 P n s I J R _ _ hy hZ]
            exact hQ
          · rw [em_X12_recipe]
            simp (disch := omega) only [g_X12_recipe_0, g_X12_recipe_1, g_X12_recipe_4, g_X12_recipe_7, g_X12_recipe_8, g_X12_recipe_9, g_X12_recipe_11, g_X12_recipe_14, g_X12_recipe_17, g_X12_recipe_18, g_X12_recipe_19, g_X12_recipe_20, g_X12_recipe_21, g_X12_recipe_24, g_X12_recipe_27, g_X12_recipe_29, g_X12_recipe_30, g_X12_recipe_31, g_X12_recipe_60, g_X12_recipe_61, g_X12_recipe_64, g_X12_recipe_66, g_X12_recipe_67, g_X12_recipe_68, g_X12_recipe_69, g_X12_recipe_70, g_X12_recipe_71, g_X12_recipe_74, g_X12_recipe_76, g_X12_recipe_79, g_X12_recipe_80, g_X12_recipe_83, g_X12_recipe_85, g_X12_recipe_86, g_X12_recipe_87, g_X12_recipe_88, g_X12_recipe_89, g_X12_recipe_90, g_X12_recipe_91, g_X12_recipe_92, g_X12_recipe_93, g_X12_recipe_96, g_X12_recipe_97, g_X12_recipe_98, g_X12_recipe_99, g_X12_recipe_102, g_X12_recipe_103, g_X12_recipe_104, g_X12_recipe_105, g_X12_recipe_108, g_X12_recipe_109, g_X12_recipe_110, g_X12_recipe_113, g_X12_recipe_115, g_X12_recipe_116, g_X12_recipe_117, g_X12_recipe_118, g_X12_recipe_119, g_X12_recipe_120, g_X12_recipe_121, g_X12_recipe_122, lk_X12_recipe, XI, Nat.reduceAdd, Nat.reduceEqDiff, not_false_eq_true, nI_T1, nI_T0, true_and, and_true, WC, WV, WU, rs_b_0, rs_b_ok2, true_or, or_true, Classical.not_not, not_true_eq_false, if_true, if_false, reduceCtorEq, s_X12_isNumber, s_X12_in, c0, c1, s_X12_isThere, he I h.1, nI_eqS, Nat.reduceEqDiff, nI_mulS, nI_addS, nI_cl, rs_in_t, s_direct P n s I J R _ _ h.1 hS.1, ed]
            exact hQ
        · subst e
          refine BC_same hS (.int (nI (conD D r))) (Or.inl ⟨_, rfl⟩) (fun d P n s I J R Q h hQ => ?_) (fun d P n s I J R Q h hQ => ?_)
          · obtain ⟨q, hR, hq⟩ := h.2.1
            obtain ⟨y, hy, cy⟩ := g_recipeAt_s hq hr hz
            obtain ⟨V, i, U, h1, h2, v0, v1, v2, v3, v4, un, us⟩ := id hy
            rw [em_X11_recipe]
            simp (disch := omega) only [g_X11_recipe_0, g_X11_recipe_1, g_X11_recipe_4, g_X11_recipe_7, g_X11_recipe_8, g_X11_recipe_9, g_X11_recipe_11, g_X11_recipe_14, g_X11_recipe_17, g_X11_recipe_18, g_X11_recipe_19, g_X11_recipe_20, g_X11_recipe_23, g_X11_recipe_24, g_X11_recipe_27, g_X11_recipe_28, g_X11_recipe_29, g_X11_recipe_32, g_X11_recipe_34, g_X11_recipe_35, g_X11_recipe_36, g_X11_recipe_80, g_X11_recipe_81, g_X11_recipe_84, g_X11_recipe_85, g_X11_recipe_86, g_X11_recipe_89, g_X11_recipe_92, g_X11_recipe_93, g_X11_recipe_94, g_X11_recipe_97, g_X11_recipe_100, g_X11_recipe_101, g_X11_recipe_102, g_X11_recipe_105, g_X11_recipe_106, g_X11_recipe_107, g_X11_recipe_110, g_X11_recipe_113, g_X11_recipe_115, g_X11_recipe_118, g_X11_recipe_119, g_X11_recipe_122, g_X11_recipe_123, g_X11_recipe_124, g_X11_recipe_127, g_X11_recipe_128, g_X11_recipe_129, g_X11_recipe_132, g_X11_recipe_133, g_X11_recipe_136, g_X11_recipe_137, g_X11_recipe_138, g_X11_recipe_141, g_X11_recipe_142, g_X11_recipe_145, lk_X11_recipe, XI, Nat.reduceAdd, Nat.reduceEqDiff, not_false_eq_true, nI_T1, nI_T0, true_and, and_true, WC, WV, WU, rs_b_0, rs_b_ok2, true_or, or_true, Classical.not_not, not_true_eq_false, if_true, if_false, reduceCtorEq, s_X11_isRecipe, s_X11_isWithin, c0, c1, hR, va_rf, k_St P n s I J R hq, cy, nI_eqS, Nat.reduceEqDiff, k_Rc P n s I J R hy, sk_cP n s I J R h1, v2, v3, v4, s_within P n s I J R _ _ hq hS.1 hr]
            exact hQ
          · rw [em_X12_recipe]
            simp (disch := omega) only [g_X12_recipe_0, g_X12_recipe_1, g_X12_recipe_4, g_X12_recipe_7, g_X12_recipe_8, g_X12_recipe_9, g_X12_recipe_11, g_X12_recipe_14, g_X12_recipe_17, g_X12_recipe_18, g_X12_recipe_19, g_X12_recipe_20, g_X12_recipe_21, g_X12_recipe_24, g_X12_recipe_27, g_X12_recipe_29, g_X12_recipe_30, g_X12_recipe_31, g_X12_recipe_60, g_X12_recipe_61, g_X12_recipe_64, g_X12_recipe_66, g_X12_recipe_67, g_X12_recipe_68, g_X12_recipe_69, g_X12_recipe_70, g_X12_recipe_71, g_X12_recipe_74, g_X12_recipe_76, g_X12_recipe_79, g_X12_recipe_80, g_X12_recipe_83, g_X12_recipe_85, g_X12_recipe_86, g_X12_recipe_87, g_X12_recipe_88, g_X12_recipe_89, g_X12_recipe_90, g_X12_recipe_91, g_X12_recipe_92, g_X12_recipe_93, g_X12_recipe_96, g_X12_recipe_97, g_X12_recipe_98, g_X12_recipe_99, g_X12_recipe_102, g_X12_recipe_103, g_X12_recipe_104, g_X12_recipe_105, g_X12_recipe_108, g_X12_recipe_109, g_X12_recipe_110, g_X12_recipe_113, g_X12_recipe_115, g_X12_recipe_116, g_X12_recipe_117, g_X12_recipe_118, g_X12_recipe_119, g_X12_recipe_120, g_X12_recipe_121, g_X12_recipe_122, lk_X12_recipe, XI, Nat.reduceAdd, Nat.reduceEqDiff, not_false_eq_true, nI_T1, nI_T0, true_and, and_true, WC, WV, WU, rs_b_0, rs_b_ok2, true_or, or_true, Classical.not_not, not_true_eq_false, if_true, if_false, reduceCtorEq, s_X12_isNumber, s_X12_in, c0, c1, s_X12_isThere, he I h.1, nI_eqS, Nat.reduceEqDiff, nI_mulS, nI_addS, nI_cl, rs_in_t, s_contained P n s I J R _ _ h.1 hS.1 hr]
            exact hQ
        · subst e
          refine BC_same hS (.int (nI (inD D (2 ^ r ||| conD D r) 8))) (Or.inl ⟨_, rfl⟩) (fun d P n s I J R Q h hQ => ?_) (fun d P n s I J R Q h hQ => ?_)
          · obtain ⟨q, hR, hq⟩ := h.2.1
            obtain ⟨y, hy, cy⟩ := g_recipeAt_s hq hr hz
            rw [em_X11_recipe]
            simp (disch := omega) only [g_X11_recipe_0, g_X11_recipe_1, g_X11_recipe_4, g_X11_recipe_7, g_X11_recipe_8, g_X11_recipe_9, g_X11_recipe_11, g_X11_recipe_14, g_X11_recipe_17, g_X11_recipe_18, g_X11_recipe_19, g_X11_recipe_20, g_X11_recipe_23, g_X11_recipe_24, g_X11_recipe_27, g_X11_recipe_28, g_X11_recipe_29, g_X11_recipe_32, g_X11_recipe_34, g_X11_recipe_35, g_X11_recipe_36, g_X11_recipe_80, g_X11_recipe_81, g_X11_recipe_84, g_X11_recipe_85, g_X11_recipe_86, g_X11_recipe_89, g_X11_recipe_92, g_X11_recipe_93, g_X11_recipe_94, g_X11_recipe_97, g_X11_recipe_100, g_X11_recipe_101, g_X11_recipe_102, g_X11_recipe_105, g_X11_recipe_106, g_X11_recipe_107, g_X11_recipe_110, g_X11_recipe_113, g_X11_recipe_115, g_X11_recipe_118, g_X11_recipe_119, g_X11_recipe_122, g_X11_recipe_123, g_X11_recipe_124, g_X11_recipe_127, g_X11_recipe_128, g_X11_recipe_129, g_X11_recipe_132, g_X11_recipe_133, g_X11_recipe_136, g_X11_recipe_137, g_X11_recipe_138, g_X11_recipe_141, g_X11_recipe_142, g_X11_recipe_145, lk_X11_recipe, XI, Nat.reduceAdd, Nat.reduceEqDiff, not_false_eq_true, nI_T1, nI_T0, true_and, and_true, WC, WV, WU, rs_b_0, rs_b_ok2, true_or, or_true, Classical.not_not, not_true_eq_false, if_true, if_false, reduceCtorEq, s_X11_isRecipe, s_X11_isWithin, c0, c1, hR, va_rf, k_St P n s I J R hq, cy, nI_eqS, Nat.reduceEqDiff, s_ingw P n s I J R _ _ hq hS.1 hr]
            exact hQ
          · rw [em_X12_recipe]
            simp (disch := omega) only [g_X12_recipe_0, g_X12_recipe_1, g_X12_recipe_4, g_X12_recipe_7, g_X12_recipe_8, g_X12_recipe_9, g_X12_recipe_11, g_X12_recipe_14, g_X12_recipe_17, g_X12_recipe_18, g_X12_recipe_19, g_X12_recipe_20, g_X12_recipe_21, g_X12_recipe_24, g_X12_recipe_27, g_X12_recipe_29, g_X12_recipe_30, g_X12_recipe_31, g_X12_recipe_60, g_X12_recipe_61, g_X12_recipe_64, g_X12_recipe_66, g_X12_recipe_67, g_X12_recipe_68, g_X12_recipe_69, g_X12_recipe_70, g_X12_recipe_71, g_X12_recipe_74, g_X12_recipe_76, g_X12_recipe_79, g_X12_recipe_80, g_X12_recipe_83, g_X12_recipe_85, g_X12_recipe_86, g_X12_recipe_87, g_X12_recipe_88, g_X12_recipe_89, g_X12_recipe_90, g_X12_recipe_91, g_X12_recipe_92, g_X12_recipe_93, g_X12_recipe_96, g_X12_recipe_97, g_X12_recipe_98, g_X12_recipe_99, g_X12_recipe_102, g_X12_recipe_103, g_X12_recipe_104, g_X12_recipe_105, lk_X12_recipe, XI, Nat.reduceAdd, Nat.reduceEqDiff, not_false_eq_true, nI_T1, nI_T0, true_and, and_true, WC, WV, WU, rs_b_0, rs_b_ok2, true_or, or_true, Classical.not_not, not_true_eq_false, if_true, if_false, reduceCtorEq, s_X12_isNumber, s_X12_in, c0, c1, s_X12_isThere, he I h.1, nI_eqS, Nat.reduceEqDiff]
            refine s_ingredients P n s I J R (d + 56) _ h.1 hS.1 hr ?_
            simp (disch := omega) only [g_X12_recipe_108, lk_X12_recipe, XI, Nat.reduceAdd, Nat.reduceEqDiff, not_false_eq_true, nI_T1, nI_T0, true_and, and_true, WC, WV, WU]
            exact hQ
    · refine BC_same hS (.int (-1)) (Or.inl ⟨_, rfl⟩) (fun d P n s I J R Q h hQ => ?_) (fun d P n s I J R Q h hQ => ?_)
      · rw [em_X11_recipe]
        simp (disch := omega) only [g_X11_recipe_0, g_X11_recipe_1, g_X11_recipe_4, g_X11_recipe_7, g_X11_recipe_8, g_X11_recipe_9, g_X11_recipe_11, g_X11_recipe_14, g_X11_recipe_17, g_X11_recipe_18, lk_X11_recipe, XI, Nat.reduceAdd, Nat.reduceEqDiff, not_false_eq_true, nI_T1, nI_T0, true_and, and_true, WC, WV, WU, rs_b_0, rs_b_ok2, true_or, or_true, Classical.not_not, not_true_eq_false, if_true, if_false, reduceCtorEq, s_X11_isIngredient, s_X11_isRecipe, s_X11_isWithin, s_X11_isPart, c0, c1]
        exact hQ
      · rw [em_X12_recipe]
        simp (disch := omega) only [g_X12_recipe_0, g_X12_recipe_1, g_X12_recipe_4, g_X12_recipe_7, g_X12_recipe_8, g_X12_recipe_9, g_X12_recipe_11, g_X12_recipe_14, g_X12_recipe_17, g_X12_recipe_18, lk_X12_recipe, XI, Nat.reduceAdd, Nat.reduceEqDiff, not_false_eq_true, nI_T1, nI_T0, true_and, and_true, WC, WV, WU, rs_b_0, rs_b_ok2, true_or, or_true, Classical.not_not, not_true_eq_false, if_true, if_false, reduceCtorEq, s_X12_isIngredient, s_X12_isNumber, s_X12_in, c0, c1]
        exact hQ
  · refine BC_same hS (.int (-1)) (Or.inl ⟨_, rfl⟩) (fun d P n s I J R Q h hQ => ?_) (fun d P n s I J R Q h hQ => ?_)
    · rw [em_X11_recipe]
      simp (disch := omega) only [g_X11_recipe_0, g_X11_recipe_1, g_X11_recipe_4, g_X11_recipe_7, g_X11_recipe_8, g_X11_recipe_9, g_X11_recipe_11, g_X11_recipe_14, g_X11_recipe_17, g_X11_recipe_18, lk_X11_recipe, XI, Nat.reduceAdd, Nat.reduceEqDiff, not_false_eq_true, nI_T1, nI_T0, true_and, and_true, WC, WV, WU, rs_b_0, rs_b_ok2, true_or, or_true, Classical.not_not, not_true_eq_false, if_true, if_false, reduceCtorEq, s_X11_isIngredient, s_X11_isRecipe, s_X11_isWithin, s_X11_isPart, c0]
      exact hQ
    · rw [em_X12_recipe]
      simp (disch := omega) only [g_X12_recipe_0, g_X12_recipe_1, g_X12_recipe_4, g_X12_recipe_7, g_X12_recipe_8, g_X12_recipe_9, g_X12_recipe_11, g_X12_recipe_14, g_X12_recipe_17, g_X12_recipe_18, lk_X12_recipe, XI, Nat.reduceAdd, Nat.reduceEqDiff, not_false_eq_true, nI_T1, nI_T0, true_and, and_true, WC, WV, WU, rs_b_0, rs_b_ok2, true_or, or_true, Classical.not_not, not_true_eq_false, if_true, if_false, reduceCtorEq, s_X12_isIngredient, s_X12_isNumber, s_X12_in, c0]
      exact hQ
theorem b_item (hS : SOk D Ds L tp) (x0 x1 x2 : Int32) : BC yX11_item yX12_item [.int x0, .int x1, .int x2] D Ds L tp rea := by
  by_cases c0 : nI 0 ≤ x0 ∧ x0 ≤ nI 7
  · by_cases c1 : nI 0 ≤ x2 ∧ x2 ≤ nI 3
    · obtain ⟨r, -, hr0, rfl⟩ := (nI_within (by decide) (by decide)).mp c0
      obtain ⟨w, -, hw, rfl⟩ := (nI_within (by decide) (by decide)).mp c1
      have hr : r < 8 := by omega
      cases hz : D.rc r with
      | none =>
        refine BC_same hS (.int (-3)) (Or.inl ⟨_, rfl⟩) (fun d P n s I J R Q h hQ => ?_) (fun d P n s I J R Q h hQ => ?_)
        · obtain ⟨q, hR, hq⟩ := h.2.1
          rw [em_X11_item]
          simp (disch := omega) only [g_X11_item_0, g_X11_item_1, g_X11_item_4, g_X11_item_7, g_X11_item_8, g_X11_item_9, g_X11_item_10, g_X11_item_13, g_X11_item_16, g_X11_item_17, g_X11_item_18, g_X11_item_19, g_X11_item_22, g_X11_item_23, g_X11_item_26, g_X11_item_28, g_X11_item_30, g_X11_item_33, g_X11_item_35, lk_X11_item, XI, Nat.reduceAdd, Nat.reduceEqDiff, not_false_eq_true, nI_T1, nI_T0, true_and, and_true, WC, WV, WU, rs_b_0, rs_b_ok2, true_or, or_true, Classical.not_not, not_true_eq_false, if_true, if_false, reduceCtorEq, s_X11_isRecipe, s_X11_isWithin, c0, c1, hR, va_rf, k_St P n s I J R hq, g_recipeAt_n n s I J R hq hr hz]
          exact hQ
        · have e : ¬ I 62 (30 * r) = nI 1 := fun z => ((s_rowIsThere h.1 hr).mp z) hz
          rw [em_X12_item]
          simp (disch := omega) only [g_X12_item_0, g_X12_item_1, g_X12_item_4, g_X12_item_7, g_X12_item_8, g_X12_item_9, g_X12_item_10, g_X12_item_13, g_X12_item_16, g_X12_item_17, g_X12_item_18, g_X12_item_19, g_X12_item_20, g_X12_item_23, g_X12_item_26, g_X12_item_28, lk_X12_item, XI, Nat.reduceAdd, Nat.reduceEqDiff, not_false_eq_true, nI_T1, nI_T0, true_and, and_true, WC, WV, WU, rs_b_0, rs_b_ok2, true_or, or_true, Classical.not_not, not_true_eq_false, if_true, if_false, reduceCtorEq, s_X12_isNumber, s_X12_in, c0, c1, s_X12_isThere, e]
          exact hQ
      | some Z =>
        have he : ∀ I : Nat → Nat → Int32, mDt (I 62) D → I 62 (30 * r) = nI 1 := fun I hM => (s_rowIsThere hM hr).mpr (by rw [hz]; intro z; cases z)
        have hZ := (hS.1.1 r Z hz).2
        have hl1 := hZ.1
        have hl6 := hZ.2.1
        have hrow : ∀ I : Nat → Nat → Int32, mDt (I 62) D → mRc (I 62) r (some Z) := fun I hM => by
          have := hM.1 r hr
          rw [hz] at this
          exact this
        by_cases ck : ∃ k, k < Z.its.length ∧ x1 = nI k
        · obtain ⟨k, hk, rfl⟩ := ck
          have hk6 : k < 6 := by omega
          have ht : Z.its[k]? = some Z.its[k] := List.getElem?_eq_getElem hk
          have hto := hZ.2.2.1 k _ ht
          generalize Z.its[k] = t at ht hto
          have hF := hto.1
          have w4 : w = 0 ∨ w = 1 ∨ w = 2 ∨ w = 3 := by omega
          rcases w4 with e | e | e | e
          · subst e
            refine BC_same hS (.int (nI t.am.1)) (Or.inl ⟨_, rfl⟩) (fun d P n s I J R Q h hQ => ?_) (fun d P n s I J R Q h hQ => ?_)
            · obtain ⟨q, hR, hq⟩ := h.2.1
              obtain ⟨y, hy, cy⟩ := g_recipeAt_s hq hr hz
              obtain ⟨x, hx, cx⟩ := g_itemAt_s hy hk6 ht
              obtain ⟨V, h1, v0, v1, v2⟩ := id hx
              rw [em_X11_item]
              simp (disch := omega) only [g_X11_item_0, g_X11_item_1, g_X11_item_4, g_X11_item_7, g_X11_item_8, g_X11_item_9, g_X11_item_10, g_X11_item_13, g_X11_item_16, g_X11_item_17, g_X11_item_18, g_X11_item_19, g_X11_item_22, g_X11_item_23, g_X11_item_26, g_X11_item_28, g_X11_item_30, g_X11_item_33, g_X11_item_35, g_X11_item_36, g_X11_item_38, g_X11_item_39, g_X11_item_42, g_X11_item_44, g_X11_item_46, g_X11_item_49, g_X11_item_50, g_X11_item_51, g_X11_item_52, g_X11_item_80, g_X11_item_82, g_X11_item_85, g_X11_item_88, g_X11_item_89, g_X11_item_91, g_X11_item_94, g_X11_item_97, g_X11_item_98, g_X11_item_100, g_X11_item_103, g_X11_item_104, g_X11_item_106, g_X11_item_109, lk_X11_item, XI, Nat.reduceAdd, Nat.reduceEqDiff, not_false_eq_true, nI_T1, nI_T0, true_and, and_true, WC, WV, WU, rs_b_0, rs_b_ok2, true_or, or_true, Classical.not_not, not_true_eq_false, if_true, if_false, reduceCtorEq, s_X11_isRecipe, s_X11_isWithin, c0, c1, hR, va_rf, k_St P n s I J R hq, cy, cx, nI_eqS, Nat.reduceEqDiff, k_Rc P n s I J R hy, sk_cP n s I J R h1, v0, v1, v2, s_X0_up _ _ _ hF]
              exact hQ
            · have hin : nI 0 ≤ nI k ∧ nI k ≤ nI (Z.its.length - 1) := (nI_within (by decide) (by omega)).mpr ⟨k, Nat.zero_le k, by omega, rfl⟩
              have e1 : I 62 (30 * r + 1) = nI Z.its.length := (hrow I h.1).2.1
              obtain ⟨m0, m1, m2, m3⟩ := (hrow I h.1).2.2.2.2.2.2 k t ht
              rw [em_X12_item]
              simp (disch := omega) only [g_X12_item_0, g_X12_item_1, g_X12_item_4, g_X12_item_7, g_X12_item_8, g_X12_item_9, g_X12_item_10, g_X12_item_13, g_X12_item_16, g_X12_item_17, g_X12_item_18, g_X12_item_19, g_X12_item_20, g_X12_item_23, g_X12_item_26, g_X12_item_28, g_X12_item_29, g_X12_item_30, g_X12_item_31, g_X12_item_32, g_X12_item_35, g_X12_item_37, g_X12_item_38, g_X12_item_39, g_X12_item_40, g_X12_item_41, g_X12_item_42, g_X12_item_43, g_X12_item_44, g_X12_item_47, g_X12_item_50, g_X12_item_51, g_X12_item_54, g_X12_item_55, g_X12_item_56, g_X12_item_59, g_X12_item_60, g_X12_item_61, g_X12_item_62, g_X12_item_65, g_X12_item_66, lk_X12_item, XI, Nat.reduceAdd, Nat.reduceEqDiff, not_false_eq_true, nI_T1, nI_T0, true_and, and_true, WC, WV, WU, rs_b_0, rs_b_ok2, true_or, or_true, Classical.not_not, not_true_eq_false, if_true, if_false, reduceCtorEq, s_X12_isNumber, s_X12_in, c0, c1, s_X12_isThere, he I h.1, nI_mulS, nI_addS, nI_cl, rs_in_t, e1, nI_subS, hin, s_X12_itemAt, Nat.add_zero, m0]
              exact hQ
          · subst e
            refine BC_same hS (.int (nI t.am.2)) (Or.inl ⟨_, rfl⟩) (fun d P n s I J R Q h hQ => ?_) (fun d P n s I J R Q h hQ => ?_)
            · obtain ⟨q, hR, hq⟩ := h.2.1
              obtain ⟨y, hy, cy⟩ := g_recipeAt_s hq hr hz
              obtain ⟨x, hx, cx⟩ := g_itemAt_s hy hk6 ht
              obtain ⟨V, h1, v0, v1, v2⟩ := id hx
              rw [em_X11_item]
              simp (disch := omega) only [g_X11_item_0, g_X11_item_1, g_X11_item_4, g_X11_item_7, g_X11_item_8, g_X11_item_9, g_X11_item_10, g_X11_item_13, g_X11_item_16, g_X11_item_17, g_X11_item_18, g_X11_item_19, g_X11_item_22, g_X11_item_23, g_X11_item_26, g_X11_item_28, g_X11_item_30, g_X11_item_33, g_X11_item_35, g_X11_item_36, g_X11_item_38, g_X11_item_39, g_X11_item_42, g_X11_item_44, g_X11_item_46, g_X11_item_49, g_X11_item_50, g_X11_item_51, g_X11_item_52, g_X11_item_80, g_X11_item_82, g_X11_item_85, g_X11_item_88, g_X11_item_89, g_X11_item_91, g_X11_item_94, g_X11_item_97, g_X11_item_98, g_X11_item_100, g_X11_item_103, g_X11_item_104, g_X11_item_106, g_X11_item_109, lk_X11_item, XI, Nat.reduceAdd, Nat.reduceEqDiff, not_false_eq_true, nI_T1, nI_T0, true_and, and_true, WC, WV, WU, rs_b_0, rs_b_ok2, true_or, or_true, Classical.not_not, not_true_eq_false, if_true, if_false, reduceCtorEq, s_X11_isRecipe, s_X11_isWithin, c0, c1, hR, va_rf, k_St P n s I J R hq, cy, cx, nI_eqS, Nat.reduceEqDiff, k_Rc P n s I J R hy, sk_cP n s I J R h1, v0, v1, v2, s_X0_down _ _ _ hF]
              exact hQ
            · have hin : nI 0 ≤ nI k ∧ nI k ≤ nI (Z.its.length - 1) := (nI_within (by decide) (by omega)).mpr ⟨k, Nat.zero_le k, by omega, rfl⟩
              have e1 : I 62 (30 * r + 1) = nI Z.its.length := (hrow I h.1).2.1
              obtain ⟨m0, m1, m2, m3⟩ := (hrow I h.1).2.2.2.2.2.2 k t ht
              rw [em_X12_item]
              simp (disch := omega) only [g_X12_item_0, g_X12_item_1, g_X12_item_4, g_X12_item_7, g_X12_item_8, g_X12_item_9, g_X12_item_10, g_X12_item_13, g_X12_item_16, g_X12_item_17, g_X12_item_18, g_X12_item_19, g_X12_item_20, g_X12_item_23, g_X12_item_26, g_X12_item_28, g_X12_item_29, g_X12_item_30, g_X12_item_31, g_X12_item_32, g_X12_item_35, g_X12_item_37, g_X12_item_38, g_X12_item_39, g_X12_item_40, g_X12_item_41, g_X12_item_42, g_X12_item_43, g_X12_item_44, g_X12_item_47, g_X12_item_50, g_X12_item_51, g_X12_item_54, g_X12_item_55, g_X12_item_56, g_X12_item_59, g_X12_item_60, g_X12_item_61, g_X12_item_62, g_X12_item_65, g_X12_item_66, lk_X12_item, XI, Nat.reduceAdd, Nat.reduceEqDiff, not_false_eq_true, nI_T1, nI_T0, true_and, and_true, WC, WV, WU, rs_b_0, rs_b_ok2, true_or, or_true, Classical.not_not, not_true_eq_false, if_true, if_false, reduceCtorEq, s_X12_isNumber, s_X12_in, c0, c1, s_X12_isThere, he I h.1, nI_mulS, nI_addS, nI_cl, rs_in_t, e1, nI_subS, hin, s_X12_itemAt, m1]
              exact hQ
          · subst e
            refine BC_same hS (.int (nI t.un)) (Or.inl ⟨_, rfl⟩) (fun d P n s I J R Q h hQ => ?_) (fun d P n s I J R Q h hQ => ?_)
            · obtain ⟨q, hR, hq⟩ := h.2.1
              obtain ⟨y, hy, cy⟩ := g_recipeAt_s hq hr hz
              obtain ⟨x, hx, cx⟩ := g_itemAt_s hy hk6 ht
              obtain ⟨V, h1, v0, v1, v2⟩ := id hx
              rw [em_X11_item]
              simp (disch := omega) only [g_X11_item_0, g_X11_item_1, g_X11_item_4, g_X11_item_7, g_X11_item_8, g_X11_item_9, g_X11_item_10, g_X11_item_13, g_X11_item_16, g_X11_item_17, g_X11_item_18, g_X11_item_19, g_X11_item_22, g_X11_item_23, g_X11_item_26, g_X11_item_28, g_X11_item_30, g_X11_item_33, g_X11_item_35, g_X11_item_36, g_X11_item_38, g_X11_item_39, g_X11_item_42, g_X11_item_44, g_X11_item_46, g_X11_item_49, g_X11_item_50, g_X11_item_51, g_X11_item_52, g_X11_item_80, g_X11_item_82, g_X11_item_85, g_X11_item_88, g_X11_item_89, g_X11_item_91, g_X11_item_94, g_X11_item_97, g_X11_item_98, g_X11_item_100, g_X11_item_103, g_X11_item_104, g_X11_item_106, g_X11_item_109, lk_X11_item, XI, Nat.reduceAdd, Nat.reduceEqDiff, not_false_eq_true, nI_T1, nI_T0, true_and, and_true, WC, WV, WU, rs_b_0, rs_b_ok2, true_or, or_true, Classical.not_not, not_true_eq_false, if_true, if_false, reduceCtorEq, s_X11_isRecipe, s_X11_isWithin, c0, c1, hR, va_rf, k_St P n s I J R hq, cy, cx, nI_eqS, Nat.reduceEqDiff, k_Rc P n s I J R hy, sk_cP n s I J R h1, v0, v1, v2, nI_00]
              exact hQ
            · have hin : nI 0 ≤ nI k ∧ nI k ≤ nI (Z.its.length - 1) := (nI_within (by decide) (by omega)).mpr ⟨k, Nat.zero_le k, by omega, rfl⟩
              have e1 : I 62 (30 * r + 1) = nI Z.its.length := (hrow I h.1).2.1
              obtain ⟨m0, m1, m2, m3⟩ := (hrow I h.1).2.2.2.2.2.2 k t ht
              rw [em_X12_item]
              simp (disch := omega) only [g_X12_item_0, g_X12_item_1, g_X12_item_4, g_X12_item_7, g_X12_item_8, g_X12_item_9, g_X12_item_10, g_X12_item_13, g_X12_item_16, g_X12_item_17, g_X12_item_18, g_X12_item_19, g_X12_item_20, g_X12_item_23, g_X12_item_26, g_X12_item_28, g_X12_item_29, g_X12_item_30, g_X12_item_31, g_X12_item_32, g_X12_item_35, g_X12_item_37, g_X12_item_38, g_X12_item_39, g_X12_item_40, g_X12_item_41, g_X12_item_42, g_X12_item_43, g_X12_item_44, g_X12_item_47, g_X12_item_50, g_X12_item_51, g_X12_item_54, g_X12_item_55, g_X12_item_56, g_X12_item_59, g_X12_item_60, g_X12_item_61, g_X12_item_62, g_X12_item_65, g_X12_item_66, lk_X12_item, XI, Nat.reduceAdd, Nat.reduceEqDiff, not_false_eq_true, nI_T1, nI_T0, true_and, and_true, WC, WV, WU, rs_b_0, rs_b_ok2, true_or, or_true, Classical.not_not, not_true_eq_false, if_true, if_false, reduceCtorEq, s_X12_isNumber, s_X12_in, c0, c1, s_X12_isThere, he I h.1, nI_mulS, nI_addS, nI_cl, rs_in_t, e1, nI_subS, hin, s_X12_itemAt, m2]
              exact hQ
          · subst e
            refine BC_same hS (.int (nI t.so)) (Or.inl ⟨_, rfl⟩) (fun d P n s I J R Q h hQ => ?_) (fun d P n s I J R Q h hQ => ?_)
            · obtain ⟨q, hR, hq⟩ := h.2.1
              obtain ⟨y, hy, cy⟩ := g_recipeAt_s hq hr hz
              obtain ⟨x, hx, cx⟩ := g_itemAt_s hy hk6 ht
              obtain ⟨V, h1, v0, v1, v2⟩ := id hx
              rw [em_X11_item]
              simp (disch := omega) only [g_X11_item_0, g_X11_item_1, g_X11_item_4, g_X11_item_7, g_X11_item_8, g_X11_item_9, g_X11_item_10, g_X11_item_13, g_X11_item_16, g_X11_item_17, g_X11_item_18, g_X11_item_19, g_X11_item_22, g_X11_item_23, g_X11_item_26, g_X11_item_28, g_X11_item_30, g_X11_item_33, g_X11_item_35, g_X11_item_36, g_X11_item_38, g_X11_item_39, g_X11_item_42, g_X11_item_44, g_X11_item_46, g_X11_item_49, g_X11_item_50, g_X11_item_51, g_X11_item_52, g_X11_item_80, g_X11_item_82, g_X11_item_85, g_X11_item_88, g_X11_item_89, g_X11_item_91, g_X11_item_94, g_X11_item_97, g_X11_item_98, g_X11_item_100, g_X11_item_103, g_X11_item_104, g_X11_item_106, g_X11_item_109, lk_X11_item, XI, Nat.reduceAdd, Nat.reduceEqDiff, not_false_eq_true, nI_T1, nI_T0, true_and, and_true, WC, WV, WU, rs_b_0, rs_b_ok2, true_or, or_true, Classical.not_not, not_true_eq_false, if_true, if_false, reduceCtorEq, s_X11_isRecipe, s_X11_isWithin, c0, c1, hR, va_rf, k_St P n s I J R hq, cy, cx, nI_eqS, Nat.reduceEqDiff, k_Rc P n s I J R hy, sk_cP n s I J R h1, v0, v1, v2, nI_00]
              exact hQ
            · have hin : nI 0 ≤ nI k ∧ nI k ≤ nI (Z.its.length - 1) := (nI_within (by decide) (by omega)).mpr ⟨k, Nat.zero_le k, by omega, rfl⟩
              have e1 : I 62 (30 * r + 1) = nI Z.its.length := (hrow I h.1).2.1
              obtain ⟨m0, m1, m2, m3⟩ := (hrow I h.1).2.2.2.2.2.2 k t ht
              rw [em_X12_item]
              simp (disch := omega) only [g_X12_item_0, g_X12_item_1, g_X12_item_4, g_X12_item_7, g_X12_item_8, g_X12_item_9, g_X12_item_10, g_X12_item_13, g_X12_item_16, g_X12_item_17, g_X12_item_18, g_X12_item_19, g_X12_item_20, g_X12_item_23, g_X12_item_26, g_X12_item_28, g_X12_item_29, g_X12_item_30, g_X12_item_31, g_X12_item_32, g_X12_item_35, g_X12_item_37, g_X12_item_38, g_X12_item_39, g_X12_item_40, g_X12_item_41, g_X12_item_42, g_X12_item_43, g_X12_item_44, g_X12_item_47, g_X12_item_50, g_X12_item_51, g_X12_item_54, g_X12_item_55, g_X12_item_56, g_X12_item_59, g_X12_item_60, g_X12_item_61, g_X12_item_62, g_X12_item_65, g_X12_item_66, lk_X12_item, XI, Nat.reduceAdd, Nat.reduceEqDiff, not_false_eq_true, nI_T1, nI_T0, true_and, and_true, WC, WV, WU, rs_b_0, rs_b_ok2, true_or, or_true, Classical.not_not, not_true_eq_false, if_true, if_false, reduceCtorEq, s_X12_isNumber, s_X12_in, c0, c1, s_X12_isThere, he I h.1, nI_mulS, nI_addS, nI_cl, rs_in_t, e1, nI_subS, hin, s_X12_itemAt, m3]
              exact hQ
        · refine BC_same hS (.int (-1)) (Or.inl ⟨_, rfl⟩) (fun d P n s I J R Q h hQ => ?_) (fun d P n s I J R Q h hQ => ?_)
          · obtain ⟨q, hR, hq⟩ := h.2.1
            obtain ⟨y, hy, cy⟩ := g_recipeAt_s hq hr hz
            rw [em_X11_item]
            simp (disch := omega) only [g_X11_item_0, g_X11_item_1, g_X11_item_4, g_X11_item_7, g_X11_item_8, g_X11_item_9, g_X11_item_10, g_X11_item_13, g_X11_item_16, g_X11_item_17, g_X11_item_18, g_X11_item_19, g_X11_item_22, g_X11_item_23, g_X11_item_26, g_X11_item_28, g_X11_item_30, g_X11_item_33, g_X11_item_35, g_X11_item_36, g_X11_item_38, g_X11_item_39, g_X11_item_42, g_X11_item_44, g_X11_item_46, g_X11_item_49, g_X11_item_50, lk_X11_item, XI, Nat.reduceAdd, Nat.reduceEqDiff, not_false_eq_true, nI_T1, nI_T0, true_and, and_true, WC, WV, WU, rs_b_0, rs_b_ok2, true_or, or_true, Classical.not_not, not_true_eq_false, if_true, if_false, reduceCtorEq, s_X11_isRecipe, s_X11_isWithin, c0, c1, hR, va_rf, k_St P n s I J R hq, cy, k_Rc P n s I J R hy, g_itemAt_o n s I J R _ _ hy ck]
            exact hQ
          · have hin : ¬ (nI 0 ≤ x1 ∧ x1 ≤ nI Z.its.length - nI 1) := fun z => ck ((in_len (by omega) x1).mp z)
            have e1 : I 62 (30 * r + 1) = nI Z.its.length := (hrow I h.1).2.1
            rw [em_X12_item]
            simp (disch := omega) only [g_X12_item_0, g_X12_item_1, g_X12_item_4, g_X12_item_7, g_X12_item_8, g_X12_item_9, g_X12_item_10, g_X12_item_13, g_X12_item_16, g_X12_item_17, g_X12_item_18, g_X12_item_19, g_X12_item_20, g_X12_item_23, g_X12_item_26, g_X12_item_28, g_X12_item_29, g_X12_item_30, g_X12_item_31, g_X12_item_32, g_X12_item_35, g_X12_item_37, g_X12_item_38, g_X12_item_39, g_X12_item_40, g_X12_item_41, g_X12_item_42, g_X12_item_43, g_X12_item_44, g_X12_item_47, g_X12_item_50, g_X12_item_51, g_X12_item_54, g_X12_item_55, g_X12_item_56, g_X12_item_59, g_X12_item_60, g_X12_item_61, g_X12_item_62, g_X12_item_65, g_X12_item_66, lk_X12_item, XI, Nat.reduceAdd, Nat.reduceEqDiff, not_false_eq_true, nI_T1, nI_T0, true_and, and_true, WC, WV, WU, rs_b_0, rs_b_ok2, true_or, or_true, Classical.not_not, not_true_eq_false, if_true, if_false, reduceCtorEq, s_X12_isNumber, s_X12_in, c0, c1, s_X12_isThere, he I h.1, nI_mulS, nI_addS, nI_cl, rs_in_t, e1, hin]
            exact hQ
    · refine BC_same hS (.int (-1)) (Or.inl ⟨_, rfl⟩) (fun d P n s I J R Q h hQ => ?_) (fun d P n s I J R Q h hQ => ?_)
      · rw [em_X11_item]
        simp (disch := omega) only [g_X11_item_0, g_X11_item_1, g_X11_item_4, g_X11_item_7, g_X11_item_8, g_X11_item_9, g_X11_item_10, g_X11_item_13, g_X11_item_16, g_X11_item_17, lk_X11_item, XI, Nat.reduceAdd, Nat.reduceEqDiff, not_false_eq_true, nI_T1, nI_T0, true_and, and_true, WC, WV, WU, rs_b_0, rs_b_ok2, true_or, or_true, Classical.not_not, not_true_eq_false, if_true, if_false, reduceCtorEq, s_X11_isIngredient, s_X11_isRecipe, s_X11_isWithin, s_X11_isPart, c0, c1]
        exact hQ
      · rw [em_X12_item]
        simp (disch := omega) only [g_X12_item_0, g_X12_item_1, g_X12_item_4, g_X12_item_7, g_X12_item_8, g_X12_item_9, g_X12_item_10, g_X12_item_13, g_X12_item_16, g_X12_item_17, lk_X12_item, XI, Nat.reduceAdd, Nat.reduceEqDiff, not_false_eq_true, nI_T1, nI_T0, true_and, and_true, WC, WV, WU, rs_b_0, rs_b_ok2, true_or, or_true, Classical.not_not, not_true_eq_false, if_true, if_false, reduceCtorEq, s_X12_isIngredient, s_X12_isNumber, s_X12_in, c0, c1]
        exact hQ
  · refine BC_same hS (.int (-1)) (Or.inl ⟨_, rfl⟩) (fun d P n s I J R Q h hQ => ?_) (fun d P n s I J R Q h hQ => ?_)
    · rw [em_X11_item]
      simp (disch := omega) only [g_X11_item_0, g_X11_item_1, g_X11_item_4, g_X11_item_7, g_X11_item_8, g_X11_item_9, g_X11_item_10, g_X11_item_13, g_X11_item_16, g_X11_item_17, lk_X11_item, XI, Nat.reduceAdd, Nat.reduceEqDiff, not_false_eq_true, nI_T1, nI_T0, true_and, and_true, WC, WV, WU, rs_b_0, rs_b_ok2, true_or, or_true, Classical.not_not, not_true_eq_false, if_true, if_false, reduceCtorEq, s_X11_isIngredient, s_X11_isRecipe, s_X11_isWithin, s_X11_isPart, c0]
      exact hQ
    · rw [em_X12_item]
      simp (disch := omega) only [g_X12_item_0, g_X12_item_1, g_X12_item_4, g_X12_item_7, g_X12_item_8, g_X12_item_9, g_X12_item_10, g_X12_item_13, g_X12_item_16, g_X12_item_17, lk_X12_item, XI, Nat.reduceAdd, Nat.reduceEqDiff, not_false_eq_true, nI_T1, nI_T0, true_and, and_true, WC, WV, WU, rs_b_0, rs_b_ok2, true_or, or_true, Classical.not_not, not_true_eq_false, if_true, if_false, reduceCtorEq, s_X12_isIngredient, s_X12_isNumber, s_X12_in, c0]
      exact hQ
theorem b_count (hS : SOk D Ds L tp) (x0 : Int32) : BC yX11_count yX12_count [.int x0] D Ds L tp rea := by
  have hb := rsB_le D 8 (Nat.le_refl 8)
  by_cases c0 : nI 20 ≤ x0 ∧ x0 ≤ nI 31
  · obtain ⟨m, hm1, hm, rfl⟩ := (nI_within (by decide) (by decide)).mp c0
    have hi : m - 20 < 12 := by omega
    have hg := hS.1.2.1 (m - 20) hi
    refine BC_same hS (.int (nI (D.ig (m - 20)).stk)) (Or.inl ⟨_, rfl⟩) (fun d P n s I J R Q h hQ => ?_) (fun d P n s I J R Q h hQ => ?_)
    · obtain ⟨q, hR, hq⟩ := h.2.1
      obtain ⟨y, hy, cy⟩ := g_ingredientAt hq hi
      obtain ⟨V2, a2, e2, Ua2, Uc2, g1, g2, g3, g4, v0, v1, v2, v3, v4, v5, v6, v7, g5⟩ := id hy
      rw [em_X11_count]
      simp (disch := omega) only [g_X11_count_0, g_X11_count_1, g_X11_count_3, g_X11_count_5, g_X11_count_8, g_X11_count_11, g_X11_count_12, g_X11_count_15, g_X11_count_16, g_X11_count_18, g_X11_count_19, g_X11_count_22, g_X11_count_23, g_X11_count_24, g_X11_count_27, g_X11_count_28, g_X11_count_31, g_X11_count_32, g_X11_count_35, lk_X11_count, XI, Nat.reduceAdd, Nat.reduceEqDiff, not_false_eq_true, nI_T1, nI_T0, true_and, and_true, WC, WV, WU, rs_b_0, rs_b_ok2, true_or, or_true, Classical.not_not, not_true_eq_false, if_true, if_false, reduceCtorEq, s_X11_isWithin, c0, hR, va_rf, k_St P n s I J R hq, nI_subS, cy, sk_cP n s I J R g1, v4]
      exact hQ
    · obtain ⟨m1, m2, m3, m4, m5, m6, m7⟩ := h.1.2.1 (m - 20) hi
      rw [em_X12_count]
      simp (disch := omega) only [g_X12_count_0, g_X12_count_1, g_X12_count_3, g_X12_count_5, g_X12_count_8, g_X12_count_11, g_X12_count_12, g_X12_count_15, g_X12_count_16, g_X12_count_18, g_X12_count_19, g_X12_count_22, g_X12_count_24, g_X12_count_25, g_X12_count_26, lk_X12_count, XI, Nat.reduceAdd, Nat.reduceEqDiff, not_false_eq_true, nI_T1, nI_T0, true_and, and_true, WC, WV, WU, rs_b_0, rs_b_ok2, true_or, or_true, Classical.not_not, not_true_eq_false, if_true, if_false, reduceCtorEq, s_X12_in, c0, nI_subS, s_X12_at, nI_addS, nI_cl, rs_in_t, m5]
      exact hQ
  · by_cases c1 : nI 40 ≤ x0 ∧ x0 ≤ nI 51
    · obtain ⟨m, hm1, hm, rfl⟩ := (nI_within (by decide) (by decide)).mp c1
      have hi : m - 40 < 12 := by omega
      have hg := hS.1.2.1 (m - 40) hi
      refine BC_same hS (.int (nI (D.ig (m - 40)).pk.length)) (Or.inl ⟨_, rfl⟩) (fun d P n s I J R Q h hQ => ?_) (fun d P n s I J R Q h hQ => ?_)
      · obtain ⟨q, hR, hq⟩ := h.2.1
        obtain ⟨y, hy, cy⟩ := g_ingredientAt hq hi
        rw [em_X11_count]
        simp (disch := omega) only [g_X11_count_0, g_X11_count_1, g_X11_count_3, g_X11_count_5, g_X11_count_8, g_X11_count_11, g_X11_count_12, g_X11_count_15, g_X11_count_16, g_X11_count_18, g_X11_count_19, g_X11_count_22, g_X11_count_23, g_X11_count_24, g_X11_count_27, g_X11_count_28, g_X11_count_31, g_X11_count_32, g_X11_count_35, g_X11_count_36, g_X11_count_37, g_X11_count_39, g_X11_count_41, g_X11_count_44, g_X11_count_47, g_X11_count_48, g_X11_count_51, g_X11_count_52, g_X11_count_54, g_X11_count_55, g_X11_count_58, g_X11_count_59, g_X11_count_60, g_X11_count_63, g_X11_count_64, g_X11_count_67, g_X11_count_68, g_X11_count_71, lk_X11_count, XI, Nat.reduceAdd, Nat.reduceEqDiff, not_false_eq_true, nI_T1, nI_T0, true_and, and_true, WC, WV, WU, rs_b_0, rs_b_ok2, true_or, or_true, Classical.not_not, not_true_eq_false, if_true, if_false, reduceCtorEq, s_X11_isWithin, c0, c1, hR, va_rf, k_St P n s I J R hq, nI_subS, cy, k_Ig P n s I J R hy, g_packCount n s I J R _ _ hy]
        exact hQ
      · obtain ⟨m1, m2, m3, m4, m5, m6, m7⟩ := h.1.2.1 (m - 40) hi
        rw [em_X12_count]
        simp (disch := omega) only [g_X12_count_0, g_X12_count_1, g_X12_count_3, g_X12_count_5, g_X12_count_8, g_X12_count_11, g_X12_count_12, g_X12_count_15, g_X12_count_16, g_X12_count_18, g_X12_count_19, g_X12_count_22, g_X12_count_24, g_X12_count_25, g_X12_count_26, g_X12_count_27, g_X12_count_28, g_X12_count_30, g_X12_count_32, g_X12_count_35, g_X12_count_38, g_X12_count_39, g_X12_count_40, g_X12_count_42, g_X12_count_43, g_X12_count_46, lk_X12_count, XI, Nat.reduceAdd, Nat.reduceEqDiff, not_false_eq_true, nI_T1, nI_T0, true_and, and_true, WC, WV, WU, rs_b_0, rs_b_ok2, true_or, or_true, Classical.not_not, not_true_eq_false, if_true, if_false, reduceCtorEq, s_X12_in, c0, c1, nI_subS, s_X12_packs, m6]
        exact hQ
    · by_cases c2 : nI 0 ≤ x0 ∧ x0 ≤ nI 7
      · obtain ⟨w, -, hw, rfl⟩ := (nI_within (by decide) (by decide)).mp c2
        have w8 : w = 0 ∨ w = 1 ∨ w = 2 ∨ w = 3 ∨ w = 4 ∨ w = 5 ∨ w = 6 ∨ w = 7 := by omega
        rcases w8 with e | e | e | e | e | e | e | e
        · subst e
          refine BC_same hS (.int (nI (pc8 (rsB D 8)))) (Or.inl ⟨_, rfl⟩) (fun d P n s I J R Q h hQ => ?_) (fun d P n s I J R Q h hQ => ?_)
          · obtain ⟨q, hR, hq⟩ := h.2.1
            rw [em_X11_count]
            simp (disch := omega) only [g_X11_count_0, g_X11_count_1, g_X11_count_3, g_X11_count_5, g_X11_count_8, g_X11_count_36, g_X11_count_37, g_X11_count_39, g_X11_count_41, g_X11_count_44, g_X11_count_72, g_X11_count_73, g_X11_count_120, g_X11_count_121, g_X11_count_124, g_X11_count_127, g_X11_count_130, lk_X11_count, XI, Nat.reduceAdd, Nat.reduceEqDiff, not_false_eq_true, nI_T1, nI_T0, true_and, and_true, WC, WV, WU, rs_b_0, rs_b_ok2, true_or, or_true, Classical.not_not, not_true_eq_false, if_true, if_false, reduceCtorEq, s_X11_isWithin, c0, c1, hR, va_rf, k_St P n s I J R hq, nI_eqS, Nat.reduceEqDiff, s_recipeSet P n s I J R _ _ hq, s_bitCount _ _ _ hb]
            exact hQ
          · rw [em_X12_count]
            simp (disch := omega) only [g_X12_count_0, g_X12_count_1, g_X12_count_3, g_X12_count_5, g_X12_count_8, g_X12_count_27, g_X12_count_28, g_X12_count_30, g_X12_count_32, g_X12_count_35, g_X12_count_47, g_X12_count_48, g_X12_count_96, g_X12_count_97, g_X12_count_100, g_X12_count_103, lk_X12_count, XI, Nat.reduceAdd, Nat.reduceEqDiff, not_false_eq_true, nI_T1, nI_T0, true_and, and_true, WC, WV, WU, rs_b_0, rs_b_ok2, true_or, or_true, Classical.not_not, not_true_eq_false, if_true, if_false, reduceCtorEq, s_X12_in, c0, c1, nI_eqS, Nat.reduceEqDiff, nI_addS, nI_subS, Nat.reduceSub, nI_cl, rs_in_t, s_X12_recipes P n s I J R _ _ h.1, s_X12_ones _ _ _ hb]
            exact hQ
        · subst e
          refine BC_same hS (.int (nI (rsB D 8))) (Or.inl ⟨_, rfl⟩) (fun d P n s I J R Q h hQ => ?_) (fun d P n s I J R Q h hQ => ?_)
          · obtain ⟨q, hR, hq⟩ := h.2.1
            rw [em_X11_count]
            simp (disch := omega) only [g_X11_count_0, g_X11_count_1, g_X11_count_3, g_X11_count_5, g_X11_count_8, g_X11_count_36, g_X11_count_37, g_X11_count_39, g_X11_count_41, g_X11_count_44, g_X11_count_72, g_X11_count_73, g_X11_count_131, g_X11_count_132, g_X11_count_135, g_X11_count_138, lk_X11_count, XI, Nat.reduceAdd, Nat.reduceEqDiff, not_false_eq_true, nI_T1, nI_T0, true_and, and_true, WC, WV, WU, rs_b_0, rs_b_ok2, true_or, or_true, Classical.not_not, not_true_eq_false, if_true, if_false, reduceCtorEq, s_X11_isWithin, c0, c1, hR, va_rf, k_St P n s I J R hq, nI_eqS, Nat.reduceEqDiff, s_recipeSet P n s I J R _ _ hq]
            exact hQ
          · rw [em_X12_count]
            simp (disch := omega) only [g_X12_count_0, g_X12_count_1, g_X12_count_3, g_X12_count_5, g_X12_count_8, g_X12_count_27, g_X12_count_28, g_X12_count_30, g_X12_count_32, g_X12_count_35, g_X12_count_47, g_X12_count_48, g_X12_count_104, g_X12_count_105, g_X12_count_108, lk_X12_count, XI, Nat.reduceAdd, Nat.reduceEqDiff, not_false_eq_true, nI_T1, nI_T0, true_and, and_true, WC, WV, WU, rs_b_0, rs_b_ok2, true_or, or_true, Classical.not_not, not_true_eq_false, if_true, if_false, reduceCtorEq, s_X12_in, c0, c1, nI_eqS, Nat.reduceEqDiff, nI_addS, nI_subS, Nat.reduceSub, nI_cl, rs_in_t, s_X12_recipes P n s I J R _ _ h.1]
            exact hQ
        · subst e
          refine BC_same hS (.int (nI D.sb.length)) (Or.inl ⟨_, rfl⟩) (fun d P n s I J R Q h hQ => ?_) (fun d P n s I J R Q h hQ => ?_)
          · obtain ⟨q, hR, hq⟩ := h.2.1
            rw [em_X11_count]
            simp (disch := omega) only [g_X11_count_0, g_X11_count_1, g_X11_count_3, g_X11_count_5, g_X11_count_8, g_X11_count_36, g_X11_count_37, g_X11_count_39, g_X11_count_41, g_X11_count_44, g_X11_count_72, g_X11_count_73, g_X11_count_139, g_X11_count_140, g_X11_count_143, g_X11_count_146, lk_X11_count, XI, Nat.reduceAdd, Nat.reduceEqDiff, not_false_eq_true, nI_T1, nI_T0, true_and, and_true, WC, WV, WU, rs_b_0, rs_b_ok2, true_or, or_true, Classical.not_not, not_true_eq_false, if_true, if_false, reduceCtorEq, s_X11_isWithin, c0, c1, hR, va_rf, k_St P n s I J R hq, nI_eqS, Nat.reduceEqDiff, s_scount n s I J R _ _ hq hS.1]
            exact hQ
          · rw [em_X12_count]
            simp (disch := omega) only [g_X12_count_0, g_X12_count_1, g_X12_count_3, g_X12_count_5, g_X12_count_8, g_X12_count_27, g_X12_count_28, g_X12_count_30, g_X12_count_32, g_X12_count_35, g_X12_count_47, g_X12_count_48, g_X12_count_109, g_X12_count_110, g_X12_count_113, g_X12_count_116, g_X12_count_117, lk_X12_count, XI, Nat.reduceAdd, Nat.reduceEqDiff, not_false_eq_true, nI_T1, nI_T0, true_and, and_true, WC, WV, WU, rs_b_0, rs_b_ok2, true_or, or_true, Classical.not_not, not_true_eq_false, if_true, if_false, reduceCtorEq, s_X12_in, c0, c1, nI_eqS, Nat.reduceEqDiff, nI_addS, nI_subS, Nat.reduceSub, nI_cl, rs_in_t, h.1.2.2.1]
            exact hQ
        · subst e
          refine BC_same hS (.int (nI tp.length)) (Or.inl ⟨_, rfl⟩) (fun d P n s I J R Q h hQ => ?_) (fun d P n s I J R Q h hQ => ?_)
          · obtain ⟨q, hR, hq⟩ := h.2.1
            rw [em_X11_count]
            simp (disch := omega) only [g_X11_count_0, g_X11_count_1, g_X11_count_3, g_X11_count_5, g_X11_count_8, g_X11_count_36, g_X11_count_37, g_X11_count_39, g_X11_count_41, g_X11_count_44, g_X11_count_72, g_X11_count_73, g_X11_count_147, g_X11_count_148, g_X11_count_151, g_X11_count_154, lk_X11_count, XI, Nat.reduceAdd, Nat.reduceEqDiff, not_false_eq_true, nI_T1, nI_T0, true_and, and_true, WC, WV, WU, rs_b_0, rs_b_ok2, true_or, or_true, Classical.not_not, not_true_eq_false, if_true, if_false, reduceCtorEq, s_X11_isWithin, c0, c1, hR, va_rf, k_St P n s I J R hq, nI_eqS, Nat.reduceEqDiff, em_X10_length, K_X10_length, lk_X10_length, h.2.2.2.2.2.2.1]
            exact hQ
          · rw [em_X12_count]
            simp (disch := omega) only [g_X12_count_0, g_X12_count_1, g_X12_count_3, g_X12_count_5, g_X12_count_8, g_X12_count_27, g_X12_count_28, g_X12_count_30, g_X12_count_32, g_X12_count_35, g_X12_count_47, g_X12_count_48, g_X12_count_118, g_X12_count_119, g_X12_count_122, lk_X12_count, XI, Nat.reduceAdd, Nat.reduceEqDiff, not_false_eq_true, nI_T1, nI_T0, true_and, and_true, WC, WV, WU, rs_b_0, rs_b_ok2, true_or, or_true, Classical.not_not, not_true_eq_false, if_true, if_false, reduceCtorEq, s_X12_in, c0, c1, nI_eqS, Nat.reduceEqDiff, nI_addS, nI_subS, Nat.reduceSub, nI_cl, rs_in_t, h.2.2.2.2.2.1]
            exact hQ
        · subst e
          refine BC_same hS (.int (nI L.length)) (Or.inl ⟨_, rfl⟩) (fun d P n s I J R Q h hQ => ?_) (fun d P n s I J R Q h hQ => ?_)
          · obtain ⟨q, hR, hq⟩ := h.2.1
            rw [em_X11_count]
            simp (disch := omega) only [g_X11_count_0, g_X11_count_1, g_X11_count_3, g_X11_count_5, g_X11_count_8, g_X11_count_36, g_X11_count_37, g_X11_count_39, g_X11_count_41, g_X11_count_44, g_X11_count_72, g_X11_count_73, g_X11_count_155, g_X11_count_156, g_X11_count_159, lk_X11_count, XI, Nat.reduceAdd, Nat.reduceEqDiff, not_false_eq_true, nI_T1, nI_T0, true_and, and_true, WC, WV, WU, rs_b_0, rs_b_ok2, true_or, or_true, Classical.not_not, not_true_eq_false, if_true, if_false, reduceCtorEq, s_X11_isWithin, c0, c1, hR, va_rf, k_St P n s I J R hq, nI_eqS, Nat.reduceEqDiff, h.2.2.2.1]
            exact hQ
          · rw [em_X12_count]
            simp (disch := omega) only [g_X12_count_0, g_X12_count_1, g_X12_count_3, g_X12_count_5, g_X12_count_8, g_X12_count_27, g_X12_count_28, g_X12_count_30, g_X12_count_32, g_X12_count_35, g_X12_count_47, g_X12_count_48, g_X12_count_123, g_X12_count_124, g_X12_count_127, lk_X12_count, XI, Nat.reduceAdd, Nat.reduceEqDiff, not_false_eq_true, nI_T1, nI_T0, true_and, and_true, WC, WV, WU, rs_b_0, rs_b_ok2, true_or, or_true, Classical.not_not, not_true_eq_false, if_true, if_false, reduceCtorEq, s_X12_in, c0, c1, nI_eqS, Nat.reduceEqDiff, nI_addS, nI_subS, Nat.reduceSub, nI_cl, rs_in_t, h.2.2.1]
            exact hQ
        · subst e
          cases hp : D.pl with
          | none =>
            refine BC_same hS (.int (-5)) (Or.inl ⟨_, rfl⟩) (fun d P n s I J R Q h hQ => ?_) (fun d P n s I J R Q h hQ => ?_)
            · obtain ⟨q, hR, hq⟩ := h.2.1
              rw [em_X11_count]
              simp (disch := omega) only [g_X11_count_0, g_X11_count_1, g_X11_count_3, g_X11_count_5, g_X11_count_8, g_X11_count_36, g_X11_count_37, g_X11_count_39, g_X11_count_41, g_X11_count_44, g_X11_count_72, g_X11_count_73, g_X11_count_160, g_X11_count_161, g_X11_count_164, g_X11_count_167, g_X11_count_170, g_X11_count_171, g_X11_count_174, g_X11_count_177, g_X11_count_180, g_X11_count_182, lk_X11_count, XI, Nat.reduceAdd, Nat.reduceEqDiff, not_false_eq_true, nI_T1, nI_T0, true_and, and_true, WC, WV, WU, rs_b_0, rs_b_ok2, true_or, or_true, Classical.not_not, not_true_eq_false, if_true, if_false, reduceCtorEq, s_X11_isWithin, c0, c1, hR, va_rf, k_St P n s I J R hq, nI_eqS, Nat.reduceEqDiff, g_hasPlan_n n s I J R _ _ hq hp, nI_00]
              exact hQ
            · rw [em_X12_count]
              simp (disch := omega) only [g_X12_count_0, g_X12_count_1, g_X12_count_3, g_X12_count_5, g_X12_count_8, g_X12_count_27, g_X12_count_28, g_X12_count_30, g_X12_count_32, g_X12_count_35, g_X12_count_47, g_X12_count_48, g_X12_count_128, g_X12_count_129, g_X12_count_132, g_X12_count_135, g_X12_count_136, g_X12_count_139, g_X12_count_142, g_X12_count_143, g_X12_count_146, g_X12_count_148, lk_X12_count, XI, Nat.reduceAdd, Nat.reduceEqDiff, not_false_eq_true, nI_T1, nI_T0, true_and, and_true, WC, WV, WU, rs_b_0, rs_b_ok2, true_or, or_true, Classical.not_not, not_true_eq_false, if_true, if_false, reduceCtorEq, s_X12_in, c0, c1, nI_eqS, Nat.reduceEqDiff, nI_addS, nI_subS, Nat.reduceSub, nI_cl, rs_in_t, r_hasPlan _ _ _ _ _ _ _ _ h.1 hS.1, hp]
              exact hQ
          | some p =>
            have h8p := (hS.1.2.2.2.2 p.1 p.2 hp).1
            have hpl : ∀ I : Nat → Nat → Int32, mDt (I 62) D → mPl (I 62) (some p) := fun I hM => by
              have := hM.2.2.2.2
              rw [hp] at this
              exact this
            refine BC_same hS (.int (nI p.1)) (Or.inl ⟨_, rfl⟩) (fun d P n s I J R Q h hQ => ?_) (fun d P n s I J R Q h hQ => ?_)
            · obtain ⟨q, hR, hq⟩ := h.2.1
              rw [em_X11_count]
              simp (disch := omega) only [g_X11_count_0, g_X11_count_1, g_X11_count_3, g_X11_count_5, g_X11_count_8, g_X11_count_36, g_X11_count_37, g_X11_count_39, g_X11_count_41, g_X11_count_44, g_X11_count_72, g_X11_count_73, g_X11_count_160, g_X11_count_161, g_X11_count_164, g_X11_count_167, g_X11_count_170, g_X11_count_171, g_X11_count_174, g_X11_count_177, g_X11_count_180, g_X11_count_182, lk_X11_count, XI, Nat.reduceAdd, Nat.reduceEqDiff, not_false_eq_true, nI_T1, nI_T0, true_and, and_true, WC, WV, WU, rs_b_0, rs_b_ok2, true_or, or_true, Classical.not_not, not_true_eq_false, if_true, if_false, reduceCtorEq, s_X11_isWithin, c0, c1, hR, va_rf, k_St P n s I J R hq, nI_eqS, Nat.reduceEqDiff, g_hasPlan_s n s I J R _ _ hq hp h8p, g_planRecipe n s I J R _ _ hq hp, nI_10f]
              exact hQ
            · rw [em_X12_count]
              simp (disch := omega) only [g_X12_count_0, g_X12_count_1, g_X12_count_3, g_X12_count_5, g_X12_count_8, g_X12_count_27, g_X12_count_28, g_X12_count_30, g_X12_count_32, g_X12_count_35, g_X12_count_47, g_X12_count_48, g_X12_count_128, g_X12_count_129, g_X12_count_132, g_X12_count_135, g_X12_count_136, g_X12_count_139, g_X12_count_142, g_X12_count_143, g_X12_count_146, g_X12_count_148, lk_X12_count, XI, Nat.reduceAdd, Nat.reduceEqDiff, not_false_eq_true, nI_T1, nI_T0, true_and, and_true, WC, WV, WU, rs_b_0, rs_b_ok2, true_or, or_true, Classical.not_not, not_true_eq_false, if_true, if_false, reduceCtorEq, s_X12_in, c0, c1, nI_eqS, Nat.reduceEqDiff, nI_addS, nI_subS, Nat.reduceSub, nI_cl, rs_in_t, r_hasPlan _ _ _ _ _ _ _ _ h.1 hS.1, hp, (hpl I h.1).1]
              exact hQ
        · subst e
          cases hp : D.pl with
          | none =>
            refine BC_same hS (.int (-5)) (Or.inl ⟨_, rfl⟩) (fun d P n s I J R Q h hQ => ?_) (fun d P n s I J R Q h hQ => ?_)
            · obtain ⟨q, hR, hq⟩ := h.2.1
              rw [em_X11_count]
              simp (disch := omega) only [g_X11_count_0, g_X11_count_1, g_X11_count_3, g_X11_count_5, g_X11_count_8, g_X11_count_36, g_X11_count_37, g_X11_count_39, g_X11_count_41, g_X11_count_44, g_X11_count_72, g_X11_count_73, g_X11_count_183, g_X11_count_184, g_X11_count_187, g_X11_count_190, g_X11_count_193, g_X11_count_194, g_X11_count_197, g_X11_count_200, g_X11_count_203, g_X11_count_206, g_X11_count_208, lk_X11_count, XI, Nat.reduceAdd, Nat.reduceEqDiff, not_false_eq_true, nI_T1, nI_T0, true_and, and_true, WC, WV, WU, rs_b_0, rs_b_ok2, true_or, or_true, Classical.not_not, not_true_eq_false, if_true, if_false, reduceCtorEq, s_X11_isWithin, c0, c1, hR, va_rf, k_St P n s I J R hq, nI_eqS, Nat.reduceEqDiff, g_hasPlan_n n s I J R _ _ hq hp, nI_00]
              exact hQ
            · rw [em_X12_count]
              simp (disch := omega) only [g_X12_count_0, g_X12_count_1, g_X12_count_3, g_X12_count_5, g_X12_count_8, g_X12_count_27, g_X12_count_28, g_X12_count_30, g_X12_count_32, g_X12_count_35, g_X12_count_47, g_X12_count_48, g_X12_count_149, g_X12_count_150, g_X12_count_153, g_X12_count_156, g_X12_count_157, g_X12_count_160, g_X12_count_163, g_X12_count_164, g_X12_count_165, g_X12_count_166, g_X12_count_167, g_X12_count_168, g_X12_count_171, g_X12_count_173, lk_X12_count, XI, Nat.reduceAdd, Nat.reduceEqDiff, not_false_eq_true, nI_T1, nI_T0, true_and, and_true, WC, WV, WU, rs_b_0, rs_b_ok2, true_or, or_true, Classical.not_not, not_true_eq_false, if_true, if_false, reduceCtorEq, s_X12_in, c0, c1, nI_eqS, Nat.reduceEqDiff, nI_addS, nI_subS, Nat.reduceSub, nI_cl, rs_in_t, r_hasPlan _ _ _ _ _ _ _ _ h.1 hS.1, hp]
              exact hQ
          | some p =>
            have h8p := (hS.1.2.2.2.2 p.1 p.2 hp).1
            have hpF := (hS.1.2.2.2.2 p.1 p.2 hp).2.1
            have hpl : ∀ I : Nat → Nat → Int32, mDt (I 62) D → mPl (I 62) (some p) := fun I hM => by
              have := hM.2.2.2.2
              rw [hp] at this
              exact this
            refine BC_same hS (.int (nI p.2.1)) (Or.inl ⟨_, rfl⟩) (fun d P n s I J R Q h hQ => ?_) (fun d P n s I J R Q h hQ => ?_)
            · obtain ⟨q, hR, hq⟩ := h.2.1
              rw [em_X11_count]
              simp (disch := omega) only [g_X11_count_0, g_X11_count_1, g_X11_count_3, g_X11_count_5, g_X11_count_8, g_X11_count_36, g_X11_count_37, g_X11_count_39, g_X11_count_41, g_X11_count_44, g_X11_count_72, g_X11_count_73, g_X11_count_183, g_X11_count_184, g_X11_count_187, g_X11_count_190, g_X11_count_193, g_X11_count_194, g_X11_count_197, g_X11_count_200, g_X11_count_203, g_X11_count_206, g_X11_count_208, lk_X11_count, XI, Nat.reduceAdd, Nat.reduceEqDiff, not_false_eq_true, nI_T1, nI_T0, true_and, and_true, WC, WV, WU, rs_b_0, rs_b_ok2, true_or, or_true, Classical.not_not, not_true_eq_false, if_true, if_false, reduceCtorEq, s_X11_isWithin, c0, c1, hR, va_rf, k_St P n s I J R hq, nI_eqS, Nat.reduceEqDiff, g_hasPlan_s n s I J R _ _ hq hp h8p, g_planFactor n s I J R _ _ hq hp, nI_10f, s_X0_up _ _ _ hpF]
              exact hQ
            · rw [em_X12_count]
              simp (disch := omega) only [g_X12_count_0, g_X12_count_1, g_X12_count_3, g_X12_count_5, g_X12_count_8, g_X12_count_27, g_X12_count_28, g_X12_count_30, g_X12_count_32, g_X12_count_35, g_X12_count_47, g_X12_count_48, g_X12_count_149, g_X12_count_150, g_X12_count_153, g_X12_count_156, g_X12_count_157, g_X12_count_160, g_X12_count_163, g_X12_count_164, g_X12_count_165, g_X12_count_166, g_X12_count_167, g_X12_count_168, g_X12_count_171, g_X12_count_173, lk_X12_count, XI, Nat.reduceAdd, Nat.reduceEqDiff, not_false_eq_true, nI_T1, nI_T0, true_and, and_true, WC, WV, WU, rs_b_0, rs_b_ok2, true_or, or_true, Classical.not_not, not_true_eq_false, if_true, if_false, reduceCtorEq, s_X12_in, c0, c1, nI_eqS, Nat.reduceEqDiff, nI_addS, nI_subS, Nat.reduceSub, nI_cl, rs_in_t, r_hasPlan _ _ _ _ _ _ _ _ h.1 hS.1, hp, (hpl I h.1).2.1]
              exact hQ
        · subst e
          cases hp : D.pl with
          | none =>
            refine BC_same hS (.int (-5)) (Or.inl ⟨_, rfl⟩) (fun d P n s I J R Q h hQ => ?_) (fun d P n s I J R Q h hQ => ?_)
            · obtain ⟨q, hR, hq⟩ := h.2.1
              rw [em_X11_count]
              simp (disch := omega) only [g_X11_count_0, g_X11_count_1, g_X11_count_3, g_X11_count_5, g_X11_count_8, g_X11_count_36, g_X11_count_37, g_X11_count_39, g_X11_count_41, g_X11_count_44, g_X11_count_72, g_X11_count_73, g_X11_count_209, g_X11_count_210, g_X11_count_213, g_X11_count_216, g_X11_count_219, g_X11_count_220, g_X11_count_223, g_X11_count_226, g_X11_count_229, g_X11_count_232, g_X11_count_234, lk_X11_count, XI, Nat.reduceAdd, Nat.reduceEqDiff, not_false_eq_true, nI_T1, nI_T0, true_and, and_true, WC, WV, WU, rs_b_0, rs_b_ok2, true_or, or_true, Classical.not_not, not_true_eq_false, if_true, if_false, reduceCtorEq, s_X11_isWithin, c0, c1, hR, va_rf, k_St P n s I J R hq, nI_eqS, Nat.reduceEqDiff, g_hasPlan_n n s I J R _ _ hq hp, nI_00]
              exact hQ
            · rw [em_X12_count]
              simp (disch := omega) only [g_X12_count_0, g_X12_count_1, g_X12_count_3, g_X12_count_5, g_X12_count_8, g_X12_count_27, g_X12_count_28, g_X12_count_30, g_X12_count_32, g_X12_count_35, g_X12_count_47, g_X12_count_48, g_X12_count_149, g_X12_count_150, g_X12_count_153, g_X12_count_156, g_X12_count_157, g_X12_count_160, g_X12_count_163, g_X12_count_164, g_X12_count_165, g_X12_count_166, g_X12_count_167, g_X12_count_168, g_X12_count_171, g_X12_count_173, lk_X12_count, XI, Nat.reduceAdd, Nat.reduceEqDiff, not_false_eq_true, nI_T1, nI_T0, true_and, and_true, WC, WV, WU, rs_b_0, rs_b_ok2, true_or, or_true, Classical.not_not, not_true_eq_false, if_true, if_false, reduceCtorEq, s_X12_in, c0, c1, nI_eqS, Nat.reduceEqDiff, nI_addS, nI_subS, Nat.reduceSub, nI_cl, rs_in_t, r_hasPlan _ _ _ _ _ _ _ _ h.1 hS.1, hp]
              exact hQ
          | some p =>
            have h8p := (hS.1.2.2.2.2 p.1 p.2 hp).1
            have hpF := (hS.1.2.2.2.2 p.1 p.2 hp).2.1
            have hpl : ∀ I : Nat → Nat → Int32, mDt (I 62) D → mPl (I 62) (some p) := fun I hM => by
              have := hM.2.2.2.2
              rw [hp] at this
              exact this
            refine BC_same hS (.int (nI p.2.2)) (Or.inl ⟨_, rfl⟩) (fun d P n s I J R Q h hQ => ?_) (fun d P n s I J R Q h hQ => ?_)
            · obtain ⟨q, hR, hq⟩ := h.2.1
              rw [em_X11_count]
              simp (disch := omega) only [g_X11_count_0, g_X11_count_1, g_X11_count_3, g_X11_count_5, g_X11_count_8, g_X11_count_36, g_X11_count_37, g_X11_count_39, g_X11_count_41, g_X11_count_44, g_X11_count_72, g_X11_count_73, g_X11_count_209, g_X11_count_210, g_X11_count_213, g_X11_count_216, g_X11_count_219, g_X11_count_220, g_X11_count_223, g_X11_count_226, g_X11_count_229, g_X11_count_232, g_X11_count_234, lk_X11_count, XI, Nat.reduceAdd, Nat.reduceEqDiff, not_false_eq_true, nI_T1, nI_T0, true_and, and_true, WC, WV, WU, rs_b_0, rs_b_ok2, true_or, or_true, Classical.not_not, not_true_eq_false, if_true, if_false, reduceCtorEq, s_X11_isWithin, c0, c1, hR, va_rf, k_St P n s I J R hq, nI_eqS, Nat.reduceEqDiff, g_hasPlan_s n s I J R _ _ hq hp h8p, g_planFactor n s I J R _ _ hq hp, nI_10f, s_X0_down _ _ _ hpF]
              exact hQ
            · rw [em_X12_count]
              simp (disch := omega) only [g_X12_count_0, g_X12_count_1, g_X12_count_3, g_X12_count_5, g_X12_count_8, g_X12_count_27, g_X12_count_28, g_X12_count_30, g_X12_count_32, g_X12_count_35, g_X12_count_47, g_X12_count_48, g_X12_count_149, g_X12_count_150, g_X12_count_153, g_X12_count_156, g_X12_count_157, g_X12_count_160, g_X12_count_163, g_X12_count_164, g_X12_count_165, g_X12_count_166, g_X12_count_167, g_X12_count_168, g_X12_count_171, g_X12_count_173, lk_X12_count, XI, Nat.reduceAdd, Nat.reduceEqDiff, not_false_eq_true, nI_T1, nI_T0, true_and, and_true, WC, WV, WU, rs_b_0, rs_b_ok2, true_or, or_true, Classical.not_not, not_true_eq_false, if_true, if_false, reduceCtorEq, s_X12_in, c0, c1, nI_eqS, Nat.reduceEqDiff, nI_addS, nI_subS, Nat.reduceSub, nI_cl, rs_in_t, r_hasPlan _ _ _ _ _ _ _ _ h.1 hS.1, hp, (hpl I h.1).2.2]
              exact hQ
      · have ne : ∀ w, w ≤ 7 → ¬ x0 = nI w := fun w hw z => c2 ((nI_within (by decide) (by decide)).mpr ⟨w, Nat.zero_le w, hw, z⟩)
        refine BC_same hS (.int (-1)) (Or.inl ⟨_, rfl⟩) (fun d P n s I J R Q h hQ => ?_) (fun d P n s I J R Q h hQ => ?_)
        · rw [em_X11_count]
          simp (disch := omega) only [g_X11_count_0, g_X11_count_1, g_X11_count_3, g_X11_count_5, g_X11_count_8, lk_X11_count, g_X11_count_36, g_X11_count_37, g_X11_count_39, g_X11_count_41, g_X11_count_44, lk_X11_count, g_X11_count_72, g_X11_count_73, lk_X11_count, g_X11_count_235, g_X11_count_236, lk_X11_count, XI, Nat.reduceAdd, Nat.reduceEqDiff, not_false_eq_true, nI_T1, nI_T0, true_and, and_true, WC, WV, WU, rs_b_0, rs_b_ok2, true_or, or_true, Classical.not_not, not_true_eq_false, if_true, if_false, reduceCtorEq, s_X11_isWithin, c0, c1, ne 0 (by decide), ne 1 (by decide), ne 2 (by decide), ne 3 (by decide), ne 4 (by decide), ne 5 (by decide), ne 6 (by decide), ne 7 (by decide)]
          exact hQ
        · rw [em_X12_count]
          simp (disch := omega) only [g_X12_count_0, g_X12_count_1, g_X12_count_3, g_X12_count_5, g_X12_count_8, lk_X12_count, g_X12_count_27, g_X12_count_28, g_X12_count_30, g_X12_count_32, g_X12_count_35, lk_X12_count, g_X12_count_47, g_X12_count_48, lk_X12_count, g_X12_count_174, g_X12_count_175, lk_X12_count, XI, Nat.reduceAdd, Nat.reduceEqDiff, not_false_eq_true, nI_T1, nI_T0, true_and, and_true, WC, WV, WU, rs_b_0, rs_b_ok2, true_or, or_true, Classical.not_not, not_true_eq_false, if_true, if_false, reduceCtorEq, s_X12_in, c0, c1, ne 0 (by decide), ne 1 (by decide), ne 2 (by decide), ne 3 (by decide), ne 4 (by decide), ne 5 (by decide), ne 6 (by decide), ne 7 (by decide)]
          exact hQ
end
