/-! the question for the account -/
theorem RI_Y {I I' : Nat → Nat → Int32} {D : Dt} {Ds : Option Dt} {L : List Dt} {tp : List Nat} {rea : Int32} (h : RI I D Ds L tp rea) (f : fY I I') (r : rInv (I' 61 32) (I' 61 33) (I' 61 34)) : RI I' D Ds L tp rea := by
  obtain ⟨a1, a2, a3, a4, a5, a6, a7, a8⟩ := h
  have e62 : I' 62 = I 62 := funext fun j => f 62 j (by omega)
  have e63 : I' 63 = I 63 := funext fun j => f 63 j (by omega)
  refine ⟨by rw [e62]; exact a1, ?_, by rw [f 61 4 (by omega)]; exact a3, ?_, by rw [f 61 5 (by omega)]; exact a5, by rw [f 61 9 (by omega)]; exact a6, fun k v e => by rw [f 65 k (by omega)]; exact a7 k v e, r⟩
  · unfold rSnap at a2 ⊢
    cases Ds with
    | none => rw [f 61 2 (by omega)]; exact a2
    | some X => rw [f 61 2 (by omega), e63]; exact a2
  · intro k X e
    have e64 : (fun j => I' 64 (448 * k + j)) = fun j => I 64 (448 * k + j) := funext fun j => f 64 _ (by omega)
    rw [e64]
    exact a4 k X e
theorem fY_R {I I' : Nat → Nat → Int32} (h : fY I I') : fR I I' := fun q j a => h q j (by omega)
theorem fZ_R {J J' : Nat → Nat → Int64} (h : fZ J J') : fR J J' := fun q j a => h q j (by omega) (by omega) (by omega) (by omega) (by omega)
theorem CI_F {P : Nat → Option rs_C} {n : Nat} {I I' : Nat → Nat → Int32} {R : Nat → Nat → Option Nat} {D : Dt} {Ds : Option Dt} {L : List Dt} {tp : List Nat} {rea : Int32} (h : CI P n I R D Ds L tp rea) (f : fF I I') : CI P n I' R D Ds L tp rea :=
  CI_f h (f 1 3 (by decide) (by decide)) (f 43 1 (by decide) (by decide)) (fun j => f 44 j (by decide) (by decide)) (by rw [f 1 4 (by decide) (by decide)]; exact h.2.2.2.2.2.1)
theorem fF_C {I I' : Nat → Nat → Int32} (h : fF I I') : fC I I' := fun q j a => h q j (by omega) (by omega)
theorem fG_C {J J' : Nat → Nat → Int64} (h : fG J J') : fC J J' := fun q j a => h q j (by omega) (by omega)
section
variable (P : Nat → Option rs_C) (n s : Nat) (I : Nat → Nat → Int32) (J : Nat → Nat → Int64) (R : Nat → Nat → Option Nat) (d : Nat) (Q : rs_H → Option Value → Prop)
theorem s_aprice : rs_XM d yX6_price [.ref 56] (sk_w P n s I J R) Q ↔ Q (sk_w P n s I J R) (some (.int (I 56 5))) := by
  rw [em_X6_price]
  simp (disch := omega) only [K_X6_price, lk_X6_price, XI, Nat.reduceAdd, Nat.reduceEqDiff, not_false_eq_true, nI_T1, nI_T0, true_and, and_true, WC, WV, WU]
theorem s_awaste : rs_XM d yX6_waste [.ref 56] (sk_w P n s I J R) Q ↔ Q (sk_w P n s I J R) (some (.int (I 56 6))) := by
  rw [em_X6_waste]
  simp (disch := omega) only [K_X6_waste, lk_X6_waste, XI, Nat.reduceAdd, Nat.reduceEqDiff, not_false_eq_true, nI_T1, nI_T0, true_and, and_true, WC, WV, WU]
theorem s_agrams : rs_XM d yX6_grams [.ref 56] (sk_w P n s I J R) Q ↔ Q (sk_w P n s I J R) (some (.int (I 56 7))) := by
  rw [em_X6_grams]
  simp (disch := omega) only [K_X6_grams, lk_X6_grams, XI, Nat.reduceAdd, Nat.reduceEqDiff, not_false_eq_true, nI_T1, nI_T0, true_and, and_true, WC, WV, WU]
theorem s_alackingSet : rs_XM d yX6_lackingSet [.ref 56] (sk_w P n s I J R) Q ↔ Q (sk_w P n s I J R) (some (.int (I 56 8))) := by
  rw [em_X6_lackingSet]
  simp (disch := omega) only [K_X6_lackingSet, lk_X6_lackingSet, XI, Nat.reduceAdd, Nat.reduceEqDiff, not_false_eq_true, nI_T1, nI_T0, true_and, and_true, WC, WV, WU]
theorem s_auncoveredSet : rs_XM d yX6_uncoveredSet [.ref 56] (sk_w P n s I J R) Q ↔ Q (sk_w P n s I J R) (some (.int (I 56 9))) := by
  rw [em_X6_uncoveredSet]
  simp (disch := omega) only [K_X6_uncoveredSet, lk_X6_uncoveredSet, XI, Nat.reduceAdd, Nat.reduceEqDiff, not_false_eq_true, nI_T1, nI_T0, true_and, and_true, WC, WV, WU]
end
section
variable {D : Dt} {Ds : Option Dt} {L : List Dt} {tp : List Nat} {rea : Int32}
/-- what the account says -/
def acV (D : Dt) (w : Nat → Nat × Nat × Nat × Nat) (u : Nat) : Nat := if u = 0 then sK (aP D w) 12 else if u = 1 then sK (aW D w) 12 else if u = 2 then sK (aG D w) 12 else if u = 3 then bK (lkB D) 12 else bK (unB D) 12
theorem b_account (hS : SOk D Ds L tp) (x0 : Int32) : BC yX11_account yX12_account [.int x0] D Ds L tp rea := by
  by_cases c0 : nI 0 ≤ x0 ∧ x0 ≤ nI 4
  · obtain ⟨u, -, hu, rfl⟩ := (nI_within (by decide) (by decide)).mp c0
    obtain ⟨w, hw9⟩ := chs_ex hS.1
    have u5 : u = 0 ∨ u = 1 ∨ u = 2 ∨ u = 3 ∨ u = 4 := by omega
    refine BC_plan hS (.int (if whyD D = 0 then nI (acV D w u) else -3)) (Or.inl ⟨_, rfl⟩) (fun d P n s I J R Q h hQ => ?_) (fun d P n s I J R Q h hQ => ?_)
    · rw [em_X11_account]
      simp (disch := omega) only [g_X11_account_0, g_X11_account_1, g_X11_account_2, g_X11_account_3, g_X11_account_6, g_X11_account_9, g_X11_account_10, g_X11_account_11, g_X11_account_12, lk_X11_account, XI, Nat.reduceAdd, Nat.reduceEqDiff, not_false_eq_true, nI_T1, nI_T0, true_and, and_true, WC, WV, WU, rs_b_0, rs_b_ok2, true_or, or_true, Classical.not_not, not_true_eq_false, if_true, if_false, reduceCtorEq, s_X11_isIngredient, s_X11_isRecipe, s_X11_isWithin, s_X11_isPart, c0]
      refine c_findPlan P n s I J R (d + 36) _ hS.1 h ?_
      intro I' J' h' f1 f2 hv
      have hQ' := hQ I' J' h' f1 f2
      by_cases hw : ¬ whyD D = 0
      · rw [if_neg hw] at hQ'
        simp (disch := omega) only [g_X11_account_15, g_X11_account_18, g_X11_account_20, lk_X11_account, XI, Nat.reduceAdd, Nat.reduceEqDiff, not_false_eq_true, nI_T1, nI_T0, true_and, and_true, WC, WV, WU, rs_b_0, rs_b_ok2, true_or, or_true, Classical.not_not, not_true_eq_false, if_true, if_false, reduceCtorEq, hw]
        exact hQ'
      have hw := Classical.not_not.mp hw
      obtain ⟨b47, b49, b53, b45⟩ := hv hw
      rw [if_pos hw] at hQ'
      obtain ⟨q, hR, hq⟩ := h'.2.1
      rw [if_pos hw] at hQ
      simp (disch := omega) only [g_X11_account_15, g_X11_account_18, g_X11_account_20, g_X11_account_21, g_X11_account_22, g_X11_account_25, g_X11_account_26, g_X11_account_29, g_X11_account_30, g_X11_account_33, g_X11_account_36, lk_X11_account, XI, Nat.reduceAdd, Nat.reduceEqDiff, not_false_eq_true, nI_T1, nI_T0, true_and, and_true, WC, WV, WU, rs_b_0, rs_b_ok2, true_or, or_true, Classical.not_not, not_true_eq_false, if_true, if_false, reduceCtorEq, hw, hR, va_rf, k_St P n s I' J' R hq]
      refine s_fill P n s R (d + 54) _ hq hS.1 hw9 I' J' b49 (fun I2 J2 k1 k2 hA => ?_)
      obtain ⟨a5, a6, a7, a8, a9, a10⟩ := hA
      have hQ2 := hQ I2 J2 (CI_F h' k1) (fC_t f1 (fF_C k1)) (fC_t f2 (fG_C k2))
      rcases u5 with e | e | e | e | e
      · subst e
        simp (disch := omega) only [g_X11_account_39, g_X11_account_40, g_X11_account_72, g_X11_account_73, g_X11_account_76, g_X11_account_79, lk_X11_account, XI, Nat.reduceAdd, Nat.reduceEqDiff, not_false_eq_true, nI_T1, nI_T0, true_and, and_true, WC, WV, WU, rs_b_0, rs_b_ok2, true_or, or_true, Classical.not_not, not_true_eq_false, if_true, if_false, reduceCtorEq, s_aprice, a5]
        exact hQ2
      · subst e
        simp (disch := omega) only [g_X11_account_39, g_X11_account_40, lk_X11_account, g_X11_account_80, g_X11_account_81, g_X11_account_84, g_X11_account_87, lk_X11_account, XI, Nat.reduceAdd, Nat.reduceEqDiff, not_false_eq_true, nI_T1, nI_T0, true_and, and_true, WC, WV, WU, rs_b_0, rs_b_ok2, true_or, or_true, Classical.not_not, not_true_eq_false, if_true, if_false, reduceCtorEq, nI_eqS, Nat.reduceEqDiff, if_true, if_false, s_awaste, a6]
        exact hQ2
      · subst e
        simp (disch := omega) only [g_X11_account_39, g_X11_account_40, lk_X11_account, g_X11_account_88, g_X11_account_89, g_X11_account_92, g_X11_account_95, lk_X11_account, XI, Nat.reduceAdd, Nat.reduceEqDiff, not_false_eq_true, nI_T1, nI_T0, true_and, and_true, WC, WV, WU, rs_b_0, rs_b_ok2, true_or, or_true, Classical.not_not, not_true_eq_false, if_true, if_false, reduceCtorEq, nI_eqS, Nat.reduceEqDiff, if_true, if_false, s_agrams, a7]
        exact hQ2
      · subst e
        simp (disch := omega) only [g_X11_account_39, g_X11_account_40, lk_X11_account, g_X11_account_96, g_X11_account_97, g_X11_account_100, g_X11_account_103, lk_X11_account, XI, Nat.reduceAdd, Nat.reduceEqDiff, not_false_eq_true, nI_T1, nI_T0, true_and, and_true, WC, WV, WU, rs_b_0, rs_b_ok2, true_or, or_true, Classical.not_not, not_true_eq_false, if_true, if_false, reduceCtorEq, nI_eqS, Nat.reduceEqDiff, if_true, if_false, s_alackingSet, a8]
        exact hQ2
      · subst e
        simp (disch := omega) only [g_X11_account_39, g_X11_account_40, lk_X11_account, g_X11_account_104, g_X11_account_105, g_X11_account_108, g_X11_account_111, lk_X11_account, XI, Nat.reduceAdd, Nat.reduceEqDiff, not_false_eq_true, nI_T1, nI_T0, true_and, and_true, WC, WV, WU, rs_b_0, rs_b_ok2, true_or, or_true, Classical.not_not, not_true_eq_false, if_true, if_false, reduceCtorEq, nI_eqS, Nat.reduceEqDiff, if_true, if_false, s_auncoveredSet, a9]
        exact hQ2
    · rw [em_X12_account]
      by_cases hp : D.pl = none
      · have hw : ¬ whyD D = 0 := fun z => whyD_p z hp
        have hQ' := hQ I J (by rw [reaD_n hp]; exact h) (fR_r I) (fR_r J)
        rw [if_neg hw] at hQ'
        simp (disch := omega) only [g_X12_account_0, g_X12_account_1, g_X12_account_2, g_X12_account_3, g_X12_account_6, g_X12_account_9, g_X12_account_10, g_X12_account_11, g_X12_account_12, g_X12_account_15, g_X12_account_25, g_X12_account_27, lk_X12_account, XI, Nat.reduceAdd, Nat.reduceEqDiff, not_false_eq_true, nI_T1, nI_T0, true_and, and_true, WC, WV, WU, rs_b_0, rs_b_ok2, true_or, or_true, Classical.not_not, not_true_eq_false, if_true, if_false, reduceCtorEq, s_X12_isIngredient, s_X12_isNumber, s_X12_in, c0, r_hasPlan _ _ _ _ _ _ _ _ h.1 hS.1, hp]
        exact hQ'
      simp (disch := omega) only [g_X12_account_0, g_X12_account_1, g_X12_account_2, g_X12_account_3, g_X12_account_6, g_X12_account_9, g_X12_account_10, g_X12_account_11, g_X12_account_12, g_X12_account_15, g_X12_account_18, g_X12_account_19, lk_X12_account, XI, Nat.reduceAdd, Nat.reduceEqDiff, not_false_eq_true, nI_T1, nI_T0, true_and, and_true, WC, WV, WU, rs_b_0, rs_b_ok2, true_or, or_true, Classical.not_not, not_true_eq_false, if_true, if_false, reduceCtorEq, s_X12_isIngredient, s_X12_isNumber, s_X12_in, c0, r_hasPlan _ _ _ _ _ _ _ _ h.1 hS.1, hp]
      refine r_isFound P n s I J R (d + 54) _ hS.1 h hp ?_
      intro I' J' h' f1 f2 hv
      have hQ' := hQ I' J' h' f1 f2
      by_cases hw : ¬ whyD D = 0
      · rw [if_neg hw] at hQ'
        simp (disch := omega) only [g_X12_account_22, g_X12_account_25, g_X12_account_27, lk_X12_account, XI, Nat.reduceAdd, Nat.reduceEqDiff, not_false_eq_true, nI_T1, nI_T0, true_and, and_true, WC, WV, WU, rs_b_0, rs_b_ok2, true_or, or_true, Classical.not_not, not_true_eq_false, if_true, if_false, reduceCtorEq, hw]
        exact hQ'
      have hw := Classical.not_not.mp hw
      obtain ⟨b1, b2, b3, b4⟩ := hv hw
      rw [if_pos hw] at hQ'
      rw [if_pos hw] at hQ
      simp (disch := omega) only [g_X12_account_22, lk_X12_account, g_X12_account_28, g_X12_account_29, lk_X12_account, XI, Nat.reduceAdd, Nat.reduceEqDiff, not_false_eq_true, nI_T1, nI_T0, true_and, and_true, WC, WV, WU, rs_b_0, rs_b_ok2, true_or, or_true, Classical.not_not, not_true_eq_false, if_true, if_false, reduceCtorEq, hw]
      refine s_shopAll P n s R (d + 53) _ hS.1 hw9 I' J' h'.1 b2 h'.2.2.2.2.2.2.2 (fun I2 J2 k1 k2 k3 hA => ?_)
      obtain ⟨a5, a6, a7, a8, a9, a10⟩ := hA
      have hQ2 := hQ I2 J2 (RI_Y h' k1 k3) (fR_t f1 (fY_R k1)) (fR_t f2 (fZ_R k2))
      rcases u5 with e | e | e | e | e
      · subst e
        simp (disch := omega) only [g_X12_account_32, g_X12_account_33, g_X12_account_36, g_X12_account_37, g_X12_account_40, g_X12_account_41, g_X12_account_44, g_X12_account_45, g_X12_account_46, g_X12_account_49, g_X12_account_50, g_X12_account_53, g_X12_account_54, g_X12_account_57, g_X12_account_58, g_X12_account_59, g_X12_account_62, g_X12_account_63, g_X12_account_66, g_X12_account_67, g_X12_account_70, g_X12_account_71, g_X12_account_72, g_X12_account_75, g_X12_account_76, g_X12_account_79, g_X12_account_82, g_X12_account_83, g_X12_account_86, lk_X12_account, XI, Nat.reduceAdd, Nat.reduceEqDiff, not_false_eq_true, nI_T1, nI_T0, true_and, and_true, WC, WV, WU, rs_b_0, rs_b_ok2, true_or, or_true, Classical.not_not, not_true_eq_false, if_true, if_false, reduceCtorEq, nI_00, not_true_eq_false, if_false, a5, lN_i]
        exact hQ2
      · subst e
        simp (disch := omega) only [g_X12_account_32, g_X12_account_33, g_X12_account_36, g_X12_account_37, g_X12_account_40, g_X12_account_41, g_X12_account_44, g_X12_account_45, g_X12_account_46, g_X12_account_49, g_X12_account_50, g_X12_account_53, g_X12_account_54, g_X12_account_57, g_X12_account_58, g_X12_account_59, g_X12_account_62, g_X12_account_63, g_X12_account_66, g_X12_account_67, g_X12_account_70, g_X12_account_71, g_X12_account_72, g_X12_account_75, g_X12_account_76, g_X12_account_79, g_X12_account_82, g_X12_account_83, g_X12_account_86, lk_X12_account, XI, Nat.reduceAdd, Nat.reduceEqDiff, not_false_eq_true, nI_T1, nI_T0, true_and, and_true, WC, WV, WU, rs_b_0, rs_b_ok2, true_or, or_true, Classical.not_not, not_true_eq_false, if_true, if_false, reduceCtorEq, nI_eq0S, nI_eqS, Nat.reduceEqDiff, not_true_eq_false, not_false_eq_true, if_true, if_false, a6, lN_i]
        exact hQ2
      · subst e
        simp (disch := omega) only [g_X12_account_32, g_X12_account_33, g_X12_account_36, g_X12_account_37, g_X12_account_40, g_X12_account_41, g_X12_account_44, g_X12_account_45, g_X12_account_46, g_X12_account_49, g_X12_account_50, g_X12_account_53, g_X12_account_54, g_X12_account_57, g_X12_account_58, g_X12_account_59, g_X12_account_62, g_X12_account_63, g_X12_account_66, g_X12_account_67, g_X12_account_70, g_X12_account_71, g_X12_account_72, g_X12_account_75, g_X12_account_76, g_X12_account_79, g_X12_account_82, g_X12_account_83, g_X12_account_86, lk_X12_account, XI, Nat.reduceAdd, Nat.reduceEqDiff, not_false_eq_true, nI_T1, nI_T0, true_and, and_true, WC, WV, WU, rs_b_0, rs_b_ok2, true_or, or_true, Classical.not_not, not_true_eq_false, if_true, if_false, reduceCtorEq, nI_eq0S, nI_eqS, Nat.reduceEqDiff, not_true_eq_false, not_false_eq_true, if_true, if_false, a7, lN_i]
        exact hQ2
      · subst e
        simp (disch := omega) only [g_X12_account_32, g_X12_account_33, g_X12_account_36, g_X12_account_37, g_X12_account_40, g_X12_account_41, g_X12_account_44, g_X12_account_45, g_X12_account_46, g_X12_account_49, g_X12_account_50, g_X12_account_53, g_X12_account_54, g_X12_account_57, g_X12_account_58, g_X12_account_59, g_X12_account_62, g_X12_account_63, g_X12_account_66, g_X12_account_67, g_X12_account_70, g_X12_account_71, g_X12_account_72, g_X12_account_75, g_X12_account_76, g_X12_account_79, g_X12_account_82, g_X12_account_83, g_X12_account_86, lk_X12_account, XI, Nat.reduceAdd, Nat.reduceEqDiff, not_false_eq_true, nI_T1, nI_T0, true_and, and_true, WC, WV, WU, rs_b_0, rs_b_ok2, true_or, or_true, Classical.not_not, not_true_eq_false, if_true, if_false, reduceCtorEq, nI_eq0S, nI_eqS, Nat.reduceEqDiff, not_true_eq_false, not_false_eq_true, if_true, if_false, a8]
        exact hQ2
      · subst e
        simp (disch := omega) only [g_X12_account_32, g_X12_account_33, g_X12_account_36, g_X12_account_37, g_X12_account_40, g_X12_account_41, g_X12_account_44, g_X12_account_45, g_X12_account_46, g_X12_account_49, g_X12_account_50, g_X12_account_53, g_X12_account_54, g_X12_account_57, g_X12_account_58, g_X12_account_59, g_X12_account_62, g_X12_account_63, g_X12_account_66, g_X12_account_67, g_X12_account_70, g_X12_account_71, g_X12_account_72, g_X12_account_75, g_X12_account_76, g_X12_account_79, g_X12_account_82, g_X12_account_83, g_X12_account_86, lk_X12_account, XI, Nat.reduceAdd, Nat.reduceEqDiff, not_false_eq_true, nI_T1, nI_T0, true_and, and_true, WC, WV, WU, rs_b_0, rs_b_ok2, true_or, or_true, Classical.not_not, not_true_eq_false, if_true, if_false, reduceCtorEq, nI_eq0S, nI_eqS, Nat.reduceEqDiff, not_true_eq_false, not_false_eq_true, if_true, if_false, a9]
        exact hQ2
  · refine BC_same hS (.int (-1)) (Or.inl ⟨_, rfl⟩) (fun d P n s I J R Q h hQ => ?_) (fun d P n s I J R Q h hQ => ?_)
    · rw [em_X11_account]
      simp (disch := omega) only [g_X11_account_0, g_X11_account_1, g_X11_account_2, g_X11_account_3, g_X11_account_6, g_X11_account_9, g_X11_account_10, lk_X11_account, XI, Nat.reduceAdd, Nat.reduceEqDiff, not_false_eq_true, nI_T1, nI_T0, true_and, and_true, WC, WV, WU, rs_b_0, rs_b_ok2, true_or, or_true, Classical.not_not, not_true_eq_false, if_true, if_false, reduceCtorEq, s_X11_isIngredient, s_X11_isRecipe, s_X11_isWithin, s_X11_isPart, c0]
      exact hQ
    · rw [em_X12_account]
      simp (disch := omega) only [g_X12_account_0, g_X12_account_1, g_X12_account_2, g_X12_account_3, g_X12_account_6, g_X12_account_9, g_X12_account_10, lk_X12_account, XI, Nat.reduceAdd, Nat.reduceEqDiff, not_false_eq_true, nI_T1, nI_T0, true_and, and_true, WC, WV, WU, rs_b_0, rs_b_ok2, true_or, or_true, Classical.not_not, not_true_eq_false, if_true, if_false, reduceCtorEq, s_X12_isIngredient, s_X12_isNumber, s_X12_in, c0]
      exact hQ
end
