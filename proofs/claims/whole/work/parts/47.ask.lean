/-! questions about the plan: both sides answer alike -/
section
variable {D : Dt} {Ds : Option Dt} {L : List Dt} {tp : List Nat} {rea : Int32}
theorem BC_same {y z : MethodName} {as : List Value} (hS : SOk D Ds L tp) (v : Value) (hv : (∃ x, v = .int x) ∨ ∃ x, v = .long x) (h1 : ∀ (d : Nat) (P : Nat → Option rs_C) (n s : Nat) (I : Nat → Nat → Int32) (J : Nat → Nat → Int64) (R : Nat → Nat → Option Nat) (Q : rs_H → Option Value → Prop), CI P n I R D Ds L tp rea → Q (sk_w P n s I J R) (some v) → rs_XM (d + 60) y (.ref 1 :: as) (sk_w P n s I J R) Q)
    (h2 : ∀ (d : Nat) (P : Nat → Option rs_C) (n s : Nat) (I : Nat → Nat → Int32) (J : Nat → Nat → Int64) (R : Nat → Nat → Option Nat) (Q : rs_H → Option Value → Prop), RI I D Ds L tp rea → Q (sk_w P n s I J R) (some v) → rs_XM (d + 60) z (.ref 61 :: as) (sk_w P n s I J R) Q) : BC y z as D Ds L tp rea :=
  ⟨D, Ds, L, tp, rea, v, hS, fun d P n s I J R Q h hQ => h1 d P n s I J R Q h (hQ P n s I J R h (fC_r I) (fC_r J) (by omega) (by omega)), fun d P n s I J R Q _ h hQ => h2 d P n s I J R Q h (hQ I J h (fR_r I) (fR_r J)), hv⟩
/-- a question that needs the plan: what each side asks where it is found, where not -/
theorem BC_plan {y z : MethodName} {as : List Value} (hS : SOk D Ds L tp) (v : Value) (hv : (∃ x, v = .int x) ∨ ∃ x, v = .long x) (h1 : ∀ (d : Nat) (P : Nat → Option rs_C) (n s : Nat) (I : Nat → Nat → Int32) (J : Nat → Nat → Int64) (R : Nat → Nat → Option Nat) (Q : rs_H → Option Value → Prop), CI P n I R D Ds L tp rea → (∀ I' J', CI P n I' R D Ds L tp (reaD D rea) → fC I I' → fC J J' → Q (sk_w P n s I' J' R) (some v)) → rs_XM (d + 60) y (.ref 1 :: as) (sk_w P n s I J R) Q)
    (h2 : ∀ (d : Nat) (P : Nat → Option rs_C) (n s : Nat) (I : Nat → Nat → Int32) (J : Nat → Nat → Int64) (R : Nat → Nat → Option Nat) (Q : rs_H → Option Value → Prop), RI I D Ds L tp rea → (∀ I' J', RI I' D Ds L tp (reaD D rea) → fR I I' → fR J J' → Q (sk_w P n s I' J' R) (some v)) → rs_XM (d + 60) z (.ref 61 :: as) (sk_w P n s I J R) Q) : BC y z as D Ds L tp rea :=
  ⟨D, Ds, L, tp, reaD D rea, v, hS, fun d P n s I J R Q h hQ => h1 d P n s I J R Q h (fun I' J' h' f g => hQ P n s I' J' R h' f g (by omega) (by omega)), fun d P n s I J R Q _ h hQ => h2 d P n s I J R Q h hQ, hv⟩
theorem whyD_p (h : whyD D = 0) : ¬ D.pl = none := fun z => by rw [whyD_n z] at h; cases h
theorem rs_b_F2 {p : Prop} [Decidable p] (h : ¬ p) : (rs_b p = 0) ↔ True := ⟨fun _ => trivial, fun _ => (rs_b_0 p).mpr h⟩
theorem b_reason (hS : SOk D Ds L tp) : BC yX11_reason yX12_reason [] D Ds L tp rea :=
  BC_same hS (.int rea) (Or.inl ⟨_, rfl⟩) (fun d P n s I J R Q h hQ => by
    rw [s_X11_reason, h.2.2.2.2.2.1]
    exact hQ) (fun d P n s I J R Q h hQ => by
    rw [s_X12_reason, h.2.2.2.2.1]
    exact hQ)
theorem b_needed (hS : SOk D Ds L tp) (x0 x1 x2 : Int32) : BC yX11_needed yX12_needed [.int x0, .int x1, .int x2] D Ds L tp rea := by
  by_cases c0 : nI 0 ≤ x0 ∧ x0 ≤ nI 11
  · by_cases c1 : nI 0 ≤ x1 ∧ x1 ≤ nI 1
    · by_cases c2 : nI 0 ≤ x2 ∧ x2 ≤ nI 1
      · obtain ⟨i, -, hi, rfl⟩ := (nI_within (by decide) (by decide)).mp c0
        obtain ⟨a, -, ha, rfl⟩ := (nI_within (by decide) (by decide)).mp c1
        obtain ⟨b, -, hb, rfl⟩ := (nI_within (by decide) (by decide)).mp c2
        have hB := befD_ok hS.1 i (by omega)
        have hA := aftD_ok hS.1 i (by omega)
        refine BC_plan hS (.long (if whyD D = 0 then lN (if nI b = 0 then (if a = 1 then aftD D i else befD D i).1 else (if a = 1 then aftD D i else befD D i).2) else (-9223372036854775808))) (Or.inr ⟨_, rfl⟩) (fun d P n s I J R Q h hQ => ?_) (fun d P n s I J R Q h hQ => ?_)
        · rw [em_X11_needed]
          simp (disch := omega) only [g_X11_needed_0, g_X11_needed_1, g_X11_needed_4, g_X11_needed_7, g_X11_needed_8, g_X11_needed_9, g_X11_needed_10, g_X11_needed_13, g_X11_needed_16, g_X11_needed_17, g_X11_needed_20, g_X11_needed_23, g_X11_needed_26, g_X11_needed_27, g_X11_needed_28, lk_X11_needed, XI, Nat.reduceAdd, Nat.reduceEqDiff, not_false_eq_true, nI_T1, nI_T0, true_and, and_true, WC, WV, WU, rs_b_0, rs_b_ok2, true_or, or_true, Classical.not_not, not_true_eq_false, if_true, if_false, reduceCtorEq, s_X11_isIngredient, s_X11_isRecipe, s_X11_isWithin, s_X11_isPart, c0, c1, c2]
          refine c_findPlan P n s I J R (d + 36) _ hS.1 h ?_
          intro I' J' h' f1 f2 hv
          have hQ' := hQ I' J' h' f1 f2
          by_cases hw : ¬ whyD D = 0
          · rw [if_neg hw] at hQ'
            simp (disch := omega) only [g_X11_needed_31, g_X11_needed_34, g_X11_needed_37, lk_X11_needed, XI, Nat.reduceAdd, Nat.reduceEqDiff, not_false_eq_true, nI_T1, nI_T0, true_and, and_true, WC, WV, WU, rs_b_0, rs_b_ok2, true_or, or_true, Classical.not_not, not_true_eq_false, if_true, if_false, reduceCtorEq, hw]
            exact hQ'
          have hw := Classical.not_not.mp hw
          obtain ⟨b47, b49, b53, b45⟩ := hv hw
          rw [if_pos hw] at hQ'
          by_cases e : a = 1
          · rw [if_pos e] at hQ'
            subst e
            simp (disch := omega) only [g_X11_needed_31, g_X11_needed_34, g_X11_needed_37, g_X11_needed_38, g_X11_needed_39, g_X11_needed_40, g_X11_needed_43, g_X11_needed_44, g_X11_needed_47, g_X11_needed_50, g_X11_needed_53, g_X11_needed_54, g_X11_needed_57, g_X11_needed_60, g_X11_needed_62, g_X11_needed_64, g_X11_needed_65, g_X11_needed_68, g_X11_needed_69, g_X11_needed_72, lk_X11_needed, XI, Nat.reduceAdd, Nat.reduceEqDiff, not_false_eq_true, nI_T1, nI_T0, true_and, and_true, WC, WV, WU, rs_b_0, rs_b_ok2, true_or, or_true, Classical.not_not, not_true_eq_false, if_true, if_false, reduceCtorEq, hw, su_at_48, b49 i (by omega), s_X11_partOf _ _ _ hA]
            exact hQ'
          · rw [if_neg e] at hQ'
            simp (disch := omega) only [g_X11_needed_31, g_X11_needed_34, g_X11_needed_37, g_X11_needed_38, g_X11_needed_39, g_X11_needed_40, g_X11_needed_43, g_X11_needed_44, g_X11_needed_47, g_X11_needed_50, g_X11_needed_53, g_X11_needed_54, g_X11_needed_57, g_X11_needed_60, g_X11_needed_62, g_X11_needed_64, g_X11_needed_65, g_X11_needed_68, g_X11_needed_69, g_X11_needed_72, lk_X11_needed, XI, Nat.reduceAdd, Nat.reduceEqDiff, not_false_eq_true, nI_T1, nI_T0, true_and, and_true, WC, WV, WU, rs_b_0, rs_b_ok2, true_or, or_true, Classical.not_not, not_true_eq_false, if_true, if_false, reduceCtorEq, hw, nI_eqS, e, su_at_46, b47 i (by omega), s_X11_partOf _ _ _ hB]
            exact hQ'
        · rw [em_X12_needed]
          by_cases hp : D.pl = none
          · have hw : ¬ whyD D = 0 := fun z => whyD_p z hp
            have hQ' := hQ I J (by rw [reaD_n hp]; exact h) (fR_r I) (fR_r J)
            rw [if_neg hw] at hQ'
            simp (disch := omega) only [g_X12_needed_0, g_X12_needed_1, g_X12_needed_4, g_X12_needed_7, g_X12_needed_8, g_X12_needed_9, g_X12_needed_10, g_X12_needed_13, g_X12_needed_16, g_X12_needed_17, g_X12_needed_18, g_X12_needed_19, g_X12_needed_22, g_X12_needed_25, g_X12_needed_26, g_X12_needed_29, g_X12_needed_32, g_X12_needed_35, lk_X12_needed, XI, Nat.reduceAdd, Nat.reduceEqDiff, not_false_eq_true, nI_T1, nI_T0, true_and, and_true, WC, WV, WU, rs_b_0, rs_b_ok2, true_or, or_true, Classical.not_not, not_true_eq_false, if_true, if_false, reduceCtorEq, s_X12_isIngredient, s_X12_isNumber, s_X12_in, c0, c1, c2, r_hasPlan _ _ _ _ _ _ _ _ h.1 hS.1, hp]
            exact hQ'
          simp (disch := omega) only [g_X12_needed_0, g_X12_needed_1, g_X12_needed_4, g_X12_needed_7, g_X12_needed_8, g_X12_needed_9, g_X12_needed_10, g_X12_needed_13, g_X12_needed_16, g_X12_needed_17, g_X12_needed_18, g_X12_needed_19, g_X12_needed_22, g_X12_needed_25, g_X12_needed_26, g_X12_needed_29, g_X12_needed_32, g_X12_needed_35, g_X12_needed_36, g_X12_needed_37, lk_X12_needed, XI, Nat.reduceAdd, Nat.reduceEqDiff, not_false_eq_true, nI_T1, nI_T0, true_and, and_true, WC, WV, WU, rs_b_0, rs_b_ok2, true_or, or_true, Classical.not_not, not_true_eq_false, if_true, if_false, reduceCtorEq, s_X12_isIngredient, s_X12_isNumber, s_X12_in, c0, c1, c2, r_hasPlan _ _ _ _ _ _ _ _ h.1 hS.1, hp]
          refine r_isFound P n s I J R (d + 54) _ hS.1 h hp ?_
          intro I' J' h' f1 f2 hv
          have hQ' := hQ I' J' h' f1 f2
          by_cases hw : ¬ whyD D = 0
          · rw [if_neg hw] at hQ'
            simp (disch := omega) only [g_X12_needed_40, g_X12_needed_43, g_X12_needed_46, lk_X12_needed, XI, Nat.reduceAdd, Nat.reduceEqDiff, not_false_eq_true, nI_T1, nI_T0, true_and, and_true, WC, WV, WU, rs_b_0, rs_b_ok2, true_or, or_true, Classical.not_not, not_true_eq_false, if_true, if_false, reduceCtorEq, hw]
            exact hQ'
          have hw := Classical.not_not.mp hw
          obtain ⟨b1, b2, b3, b4⟩ := hv hw
          rw [if_pos hw] at hQ'
          have q1 := b1 i (by omega)
          have q2 := b2 i (by omega)
          have hb2 : b = 0 ∨ b = 1 := by omega
          have ha2 : a = 0 ∨ a = 1 := by omega
          rcases ha2 with e | e
          · subst e
            rw [if_neg (show ¬ (0 : Nat) = 1 by decide)] at hQ'
            rcases hb2 with e | e
            · subst e
              simp (disch := omega) only [g_X12_needed_40, g_X12_needed_43, g_X12_needed_46, g_X12_needed_47, g_X12_needed_48, g_X12_needed_51, g_X12_needed_52, g_X12_needed_55, g_X12_needed_56, g_X12_needed_59, g_X12_needed_60, g_X12_needed_61, g_X12_needed_64, g_X12_needed_65, g_X12_needed_68, g_X12_needed_69, g_X12_needed_70, g_X12_needed_71, g_X12_needed_72, g_X12_needed_75, g_X12_needed_76, g_X12_needed_79, g_X12_needed_80, g_X12_needed_81, g_X12_needed_84, g_X12_needed_85, g_X12_needed_88, g_X12_needed_89, g_X12_needed_90, lk_X12_needed, XI, Nat.reduceAdd, Nat.reduceEqDiff, not_false_eq_true, nI_T1, nI_T0, true_and, and_true, WC, WV, WU, rs_b_0, rs_b_ok2, true_or, or_true, Classical.not_not, not_true_eq_false, if_true, if_false, reduceCtorEq, hw, nI_00, nI_cl, rs_in_t, q1]
              exact hQ'
            · subst e
              simp (disch := omega) only [g_X12_needed_40, g_X12_needed_43, g_X12_needed_46, g_X12_needed_47, g_X12_needed_48, g_X12_needed_51, g_X12_needed_52, g_X12_needed_55, g_X12_needed_56, g_X12_needed_59, g_X12_needed_60, g_X12_needed_61, g_X12_needed_64, g_X12_needed_65, g_X12_needed_68, g_X12_needed_69, g_X12_needed_70, g_X12_needed_71, g_X12_needed_72, g_X12_needed_75, g_X12_needed_76, g_X12_needed_79, g_X12_needed_80, g_X12_needed_81, g_X12_needed_84, g_X12_needed_85, g_X12_needed_88, g_X12_needed_89, g_X12_needed_90, lk_X12_needed, XI, Nat.reduceAdd, Nat.reduceEqDiff, not_false_eq_true, nI_T1, nI_T0, true_and, and_true, WC, WV, WU, rs_b_0, rs_b_ok2, true_or, or_true, Classical.not_not, not_true_eq_false, if_true, if_false, reduceCtorEq, hw, nI_00, nI_eq0S, Nat.succ_ne_zero, nI_cl, rs_in_t, q1]
              exact hQ'
          · subst e
            rw [if_pos rfl] at hQ'
            rcases hb2 with e | e
            · subst e
              simp (disch := omega) only [g_X12_needed_40, g_X12_needed_43, g_X12_needed_46, g_X12_needed_47, g_X12_needed_48, g_X12_needed_51, g_X12_needed_52, g_X12_needed_55, g_X12_needed_56, g_X12_needed_59, g_X12_needed_60, g_X12_needed_61, g_X12_needed_64, g_X12_needed_65, g_X12_needed_68, g_X12_needed_69, g_X12_needed_70, g_X12_needed_71, g_X12_needed_72, g_X12_needed_75, g_X12_needed_76, g_X12_needed_79, g_X12_needed_80, g_X12_needed_81, g_X12_needed_84, g_X12_needed_85, g_X12_needed_88, g_X12_needed_89, g_X12_needed_90, lk_X12_needed, XI, Nat.reduceAdd, Nat.reduceEqDiff, not_false_eq_true, nI_T1, nI_T0, true_and, and_true, WC, WV, WU, rs_b_0, rs_b_ok2, true_or, or_true, Classical.not_not, not_true_eq_false, if_true, if_false, reduceCtorEq, hw, nI_00, nI_eq0S, Nat.succ_ne_zero, nI_cl, rs_in_t, q2]
              exact hQ'
            · subst e
              simp (disch := omega) only [g_X12_needed_40, g_X12_needed_43, g_X12_needed_46, g_X12_needed_47, g_X12_needed_48, g_X12_needed_51, g_X12_needed_52, g_X12_needed_55, g_X12_needed_56, g_X12_needed_59, g_X12_needed_60, g_X12_needed_61, g_X12_needed_64, g_X12_needed_65, g_X12_needed_68, g_X12_needed_69, g_X12_needed_70, g_X12_needed_71, g_X12_needed_72, g_X12_needed_75, g_X12_needed_76, g_X12_needed_79, g_X12_needed_80, g_X12_needed_81, g_X12_needed_84, g_X12_needed_85, g_X12_needed_88, g_X12_needed_89, g_X12_needed_90, lk_X12_needed, XI, Nat.reduceAdd, Nat.reduceEqDiff, not_false_eq_true, nI_T1, nI_T0, true_and, and_true, WC, WV, WU, rs_b_0, rs_b_ok2, true_or, or_true, Classical.not_not, not_true_eq_false, if_true, if_false, reduceCtorEq, hw, nI_00, nI_eq0S, Nat.succ_ne_zero, nI_cl, rs_in_t, q2]
              exact hQ'
      · refine BC_same hS (.long (-9223372036854775808)) (Or.inr ⟨_, rfl⟩) (fun d P n s I J R Q h hQ => ?_) (fun d P n s I J R Q h hQ => ?_)
        · rw [em_X11_needed]
          simp (disch := omega) only [g_X11_needed_0, g_X11_needed_1, g_X11_needed_4, g_X11_needed_7, g_X11_needed_8, g_X11_needed_9, g_X11_needed_10, g_X11_needed_13, g_X11_needed_16, g_X11_needed_17, g_X11_needed_20, g_X11_needed_23, g_X11_needed_26, lk_X11_needed, XI, Nat.reduceAdd, Nat.reduceEqDiff, not_false_eq_true, nI_T1, nI_T0, true_and, and_true, WC, WV, WU, rs_b_0, rs_b_ok2, true_or, or_true, Classical.not_not, not_true_eq_false, if_true, if_false, reduceCtorEq, s_X11_isIngredient, s_X11_isRecipe, s_X11_isWithin, s_X11_isPart, c0, c1, c2]
          exact hQ
        · rw [em_X12_needed]
          simp (disch := omega) only [g_X12_needed_0, g_X12_needed_1, g_X12_needed_4, g_X12_needed_7, g_X12_needed_8, g_X12_needed_9, g_X12_needed_10, g_X12_needed_13, g_X12_needed_16, g_X12_needed_17, g_X12_needed_18, g_X12_needed_19, g_X12_needed_22, g_X12_needed_25, g_X12_needed_26, g_X12_needed_29, g_X12_needed_32, g_X12_needed_35, lk_X12_needed, XI, Nat.reduceAdd, Nat.reduceEqDiff, not_false_eq_true, nI_T1, nI_T0, true_and, and_true, WC, WV, WU, rs_b_0, rs_b_ok2, true_or, or_true, Classical.not_not, not_true_eq_false, if_true, if_false, reduceCtorEq, s_X12_isIngredient, s_X12_isNumber, s_X12_in, c0, c1, c2]
          exact hQ
    · refine BC_same hS (.long (-9223372036854775808)) (Or.inr ⟨_, rfl⟩) (fun d P n s I J R Q h hQ => ?_) (fun d P n s I J R Q h hQ => ?_)
      · rw [em_X11_needed]
        simp (disch := omega) only [g_X11_needed_0, g_X11_needed_1, g_X11_needed_4, g_X11_needed_7, g_X11_needed_8, g_X11_needed_9, g_X11_needed_10, g_X11_needed_13, g_X11_needed_16, g_X11_needed_17, g_X11_needed_20, g_X11_needed_23, g_X11_needed_26, lk_X11_needed, XI, Nat.reduceAdd, Nat.reduceEqDiff, not_false_eq_true, nI_T1, nI_T0, true_and, and_true, WC, WV, WU, rs_b_0, rs_b_ok2, true_or, or_true, Classical.not_not, not_true_eq_false, if_true, if_false, reduceCtorEq, s_X11_isIngredient, s_X11_isRecipe, s_X11_isWithin, s_X11_isPart, c0, c1]
        exact hQ
      · rw [em_X12_needed]
        simp (disch := omega) only [g_X12_needed_0, g_X12_needed_1, g_X12_needed_4, g_X12_needed_7, g_X12_needed_8, g_X12_needed_9, g_X12_needed_10, g_X12_needed_13, g_X12_needed_16, g_X12_needed_17, g_X12_needed_18, g_X12_needed_19, g_X12_needed_22, g_X12_needed_25, g_X12_needed_26, g_X12_needed_29, g_X12_needed_32, g_X12_needed_35, lk_X12_needed, XI, Nat.reduceAdd, Nat.reduceEqDiff, not_false_eq_true, nI_T1, nI_T0, true_and, and_true, WC, WV, WU, rs_b_0, rs_b_ok2, true_or, or_true, Classical.not_not, not_true_eq_false, if_true, if_false, reduceCtorEq, s_X12_isIngredient, s_X12_isNumber, s_X12_in, c0, c1]
        exact hQ
  · refine BC_same hS (.long (-9223372036854775808)) (Or.inr ⟨_, rfl⟩) (fun d P n s I J R Q h hQ => ?_) (fun d P n s I J R Q h hQ => ?_)
    · rw [em_X11_needed]
      simp (disch := omega) only [g_X11_needed_0, g_X11_needed_1, g_X11_needed_4, g_X11_needed_7, g_X11_needed_8, g_X11_needed_9, g_X11_needed_10, g_X11_needed_13, g_X11_needed_16, g_X11_needed_17, g_X11_needed_20, g_X11_needed_23, g_X11_needed_26, lk_X11_needed, XI, Nat.reduceAdd, Nat.reduceEqDiff, not_false_eq_true, nI_T1, nI_T0, true_and, and_true, WC, WV, WU, rs_b_0, rs_b_ok2, true_or, or_true, Classical.not_not, not_true_eq_false, if_true, if_false, reduceCtorEq, s_X11_isIngredient, s_X11_isRecipe, s_X11_isWithin, s_X11_isPart, c0]
      exact hQ
    · rw [em_X12_needed]
      simp (disch := omega) only [g_X12_needed_0, g_X12_needed_1, g_X12_needed_4, g_X12_needed_7, g_X12_needed_8, g_X12_needed_9, g_X12_needed_10, g_X12_needed_13, g_X12_needed_16, g_X12_needed_17, g_X12_needed_18, g_X12_needed_19, g_X12_needed_22, g_X12_needed_25, g_X12_needed_26, g_X12_needed_29, g_X12_needed_32, g_X12_needed_35, lk_X12_needed, XI, Nat.reduceAdd, Nat.reduceEqDiff, not_false_eq_true, nI_T1, nI_T0, true_and, and_true, WC, WV, WU, rs_b_0, rs_b_ok2, true_or, or_true, Classical.not_not, not_true_eq_false, if_true, if_false, reduceCtorEq, s_X12_isIngredient, s_X12_isNumber, s_X12_in, c0]
      exact hQ
end
