/-! the question for the shopping: up to the lack -/
theorem RI_X {I I' : Nat → Nat → Int32} {D : Dt} {Ds : Option Dt} {L : List Dt} {tp : List Nat} {rea : Int32} (h : RI I D Ds L tp rea) (f : fX I I') (r : rInv (I' 61 32) (I' 61 33) (I' 61 34)) : RI I' D Ds L tp rea := by
  obtain ⟨a1, a2, a3, a4, a5, a6, a7, a8⟩ := h
  have e62 : I' 62 = I 62 := funext fun j => f 62 j (by omega)
  have e63 : I' 63 = I 63 := funext fun j => f 63 j (by omega)
  refine ⟨by rw [e62]; exact a1, ?_, by rw [f 61 4 (by omega)]; exact a3, ?_, by rw [f 61 5 (by omega)]; exact a5, by rw [f 61 9 (by omega)]; exact a6, fun k v e => by rw [f 65 k (by omega)]; exact a7 k v e, r⟩
  · unfold rSnap at a2 ⊢
    cases Ds with
    | none => rw [f 61 2 (by omega)]; exact a2
    | some X => rw [f 61 2 (by omega), e63]; exact a2
  · intro k X e
    have e64 : (fun j => I' 64 (448 * k + j)) = fun j => I 64 (448 * k + j) := funext fun j => f 64 _ (by omega)
    rw [e64]
    exact a4 k X e
theorem fX_R {I I' : Nat → Nat → Int32} (h : fX I I') : fR I I' := fun q j a => h q j (by omega)
theorem fS_R {J J' : Nat → Nat → Int64} (h : fS J J') : fR J J' := fun q j a => h q j (by omega) (by omega) (by omega) (by omega)
def lkD (D : Dt) (i : Nat) : Nat := up1 (aftD D i) - (D.ig i).stk
section
variable {D : Dt} {Ds : Option Dt} {L : List Dt} {tp : List Nat} {rea : Int32}
theorem c_sh (hS : SOk D Ds L tp) {i : Nat} (hi : i < 12) {u : Nat} (hu : u ≤ 12) (hw : u ≤ 3 ∨ (10 ≤ u ∧ u < 10 + (D.ig i).pk.length)) (d : Nat) (P : Nat → Option rs_C) (n s : Nat) (I : Nat → Nat → Int32) (J : Nat → Nat → Int64) (R : Nat → Nat → Option Nat) (Q : rs_H → Option Value → Prop) (h : CI P n I R D Ds L tp rea)
    (q0 : ∀ I' J', CI P n I' R D Ds L tp (reaD D rea) → fC I I' → fC J J' → ¬ whyD D = 0 → Q (sk_w P n s I' J' R) (some (.int (-3))))
    (q1 : ∀ I' J' y, CI P n I' R D Ds L tp (reaD D rea) → fC I I' → fC J J' → whyD D = 0 → cIg P n y (D.ig i) → rs_X (d + 60) yX11_shopping 67 [some (.ref 1), some (.int (nI i)), some (.int (nI u)), some (.ref y), some (.int (nI (lkD D i)))] [] (sk_w P n s I' J' R) Q) : rs_XM (d + 60) yX11_shopping [.ref 1, .int (nI i), .int (nI u)] (sk_w P n s I J R) Q := by
  obtain ⟨q, hR, hq⟩ := h.2.1
  obtain ⟨y, hy, cy⟩ := g_ingredientAt hq hi
  have hg := hS.1.2.1 i hi
  have hA := aftD_ok hS.1 i hi
  have h3 := hg.2.2.2.2.2.1
  have go : rs_X (d + 60) yX11_shopping 40 [some (.ref 1), some (.int (nI i)), some (.int (nI u)), some (.ref y), none] [] (sk_w P n s I J R) Q := by
    simp (disch := omega) only [g_X11_shopping_40, g_X11_shopping_41, lk_X11_shopping, XI, Nat.reduceAdd, Nat.reduceEqDiff, not_false_eq_true, nI_T1, nI_T0, true_and, and_true, WC, WV, WU]
    refine c_findPlan P n s I J R (d + 36) _ hS.1 h ?_
    intro I' J' h' f1 f2 hv
    by_cases hwh : ¬ whyD D = 0
    · simp (disch := omega) only [g_X11_shopping_44, g_X11_shopping_47, g_X11_shopping_49, lk_X11_shopping, XI, Nat.reduceAdd, Nat.reduceEqDiff, not_false_eq_true, nI_T1, nI_T0, true_and, and_true, WC, WV, WU, rs_b_0, rs_b_ok2, true_or, or_true, Classical.not_not, not_true_eq_false, if_true, if_false, reduceCtorEq, hwh]
      exact q0 I' J' h' f1 f2 hwh
    · have hwh := Classical.not_not.mp hwh
      obtain ⟨b47, b49, b53, b45⟩ := hv hwh
      simp (disch := omega) only [g_X11_shopping_44, g_X11_shopping_47, g_X11_shopping_49, g_X11_shopping_50, g_X11_shopping_51, g_X11_shopping_52, g_X11_shopping_55, g_X11_shopping_58, g_X11_shopping_59, g_X11_shopping_62, g_X11_shopping_65, lk_X11_shopping, XI, Nat.reduceAdd, Nat.reduceEqDiff, not_false_eq_true, nI_T1, nI_T0, true_and, and_true, WC, WV, WU, rs_b_0, rs_b_ok2, true_or, or_true, Classical.not_not, not_true_eq_false, if_true, if_false, reduceCtorEq, hwh, k_Ig P n s I' J' R hy, su_at_48, b49 i hi, g_lack n s I' J' R _ _ hy hg hA]
      exact q1 I' J' y h' f1 f2 hwh hy
  rw [em_X11_shopping]
  by_cases c1 : nI 0 ≤ nI u ∧ nI u ≤ nI 3
  · simp (disch := omega) only [g_X11_shopping_0, g_X11_shopping_1, g_X11_shopping_4, g_X11_shopping_5, g_X11_shopping_8, g_X11_shopping_9, g_X11_shopping_10, g_X11_shopping_13, g_X11_shopping_14, g_X11_shopping_15, g_X11_shopping_16, g_X11_shopping_19, lk_X11_shopping, XI, Nat.reduceAdd, Nat.reduceEqDiff, not_false_eq_true, nI_T1, nI_T0, true_and, and_true, WC, WV, WU, rs_b_0, rs_b_ok2, true_or, or_true, Classical.not_not, not_true_eq_false, if_true, if_false, reduceCtorEq, hR, va_rf, k_St P n s I J R hq, cy, s_X11_isWithin, c1]
    exact go
  · have c2 : nI 10 ≤ nI u ∧ nI u ≤ nI (9 + (D.ig i).pk.length) := by
      rcases hw with q | q
      · exact absurd ⟨(nI_leS (by omega) (by omega)).mpr (Nat.zero_le u), (nI_leS (by omega) (by omega)).mpr q⟩ c1
      · exact ⟨(nI_leS (by omega) (by omega)).mpr q.1, (nI_leS (by omega) (by omega)).mpr (by omega)⟩
    simp (disch := omega) only [g_X11_shopping_0, g_X11_shopping_1, g_X11_shopping_4, g_X11_shopping_5, g_X11_shopping_8, g_X11_shopping_9, g_X11_shopping_10, g_X11_shopping_13, g_X11_shopping_14, g_X11_shopping_15, g_X11_shopping_16, g_X11_shopping_19, g_X11_shopping_22, g_X11_shopping_23, g_X11_shopping_25, g_X11_shopping_27, g_X11_shopping_28, g_X11_shopping_31, g_X11_shopping_32, g_X11_shopping_35, lk_X11_shopping, XI, Nat.reduceAdd, Nat.reduceEqDiff, not_false_eq_true, nI_T1, nI_T0, true_and, and_true, WC, WV, WU, rs_b_0, rs_b_ok2, true_or, or_true, Classical.not_not, not_true_eq_false, if_true, if_false, reduceCtorEq, hR, va_rf, k_St P n s I J R hq, cy, s_X11_isWithin, c1, k_Ig P n s I J R hy, g_packCount n s I J R _ _ hy, nI_addS, c2]
    exact go
theorem r_sh (hS : SOk D Ds L tp) {i : Nat} (hi : i < 12) {u : Nat} (hu : u ≤ 12) (hw : u ≤ 3 ∨ (10 ≤ u ∧ u < 10 + (D.ig i).pk.length)) (d : Nat) (P : Nat → Option rs_C) (n s : Nat) (I : Nat → Nat → Int32) (J : Nat → Nat → Int64) (R : Nat → Nat → Option Nat) (Q : rs_H → Option Value → Prop) (h : RI I D Ds L tp rea)
    (q0 : ∀ I' J', RI I' D Ds L tp (reaD D rea) → fR I I' → fR J J' → ¬ whyD D = 0 → Q (sk_w P n s I' J' R) (some (.int (-3))))
    (q1 : ∀ I' J', RI I' D Ds L tp (reaD D rea) → fR I I' → fR J J' → whyD D = 0 → mS J' 67 68 12 (aftD D) → rs_X (d + 60) yX12_shopping 76 [some (.ref 61), some (.int (nI i)), some (.int (nI u)), some (.int (nI 1)), some (.long (lN (lkD D i))), none] [] (sk_w P n s I' J' R) Q) : rs_XM (d + 60) yX12_shopping [.ref 61, .int (nI i), .int (nI u)] (sk_w P n s I J R) Q := by
  have hg := hS.1.2.1 i hi
  have hA := aftD_ok hS.1 i hi
  have h3 := hg.2.2.2.2.2.1
  have h9 := hg.2.2.2.2.1
  have hP := mPk_of h.1 hi
  have c0 : nI 0 ≤ nI i ∧ nI i ≤ nI 11 := ⟨(nI_leS (by omega) (by omega)).mpr (Nat.zero_le i), (nI_leS (by omega) (by omega)).mpr (by omega)⟩
  have go : rs_X (d + 60) yX12_shopping 33 [some (.ref 61), some (.int (nI i)), some (.int (nI u)), none, none, none] [] (sk_w P n s I J R) Q := by
    by_cases hp : D.pl = none
    · have hwh : ¬ whyD D = 0 := fun z => whyD_p z hp
      simp (disch := omega) only [g_X12_shopping_33, g_X12_shopping_34, g_X12_shopping_37, g_X12_shopping_38, g_X12_shopping_39, g_X12_shopping_40, g_X12_shopping_43, g_X12_shopping_46, g_X12_shopping_47, g_X12_shopping_50, g_X12_shopping_51, g_X12_shopping_52, g_X12_shopping_53, g_X12_shopping_56, lk_X12_shopping, g_X12_shopping_66, g_X12_shopping_68, lk_X12_shopping, XI, Nat.reduceAdd, Nat.reduceEqDiff, not_false_eq_true, nI_T1, nI_T0, true_and, and_true, WC, WV, WU, rs_b_0, rs_b_ok2, true_or, or_true, Classical.not_not, not_true_eq_false, if_true, if_false, reduceCtorEq, nI_10f, s_X12_isIngredient, c0, r_hasPlan _ _ _ _ _ _ _ _ h.1 hS.1, hp]
      exact q0 I J (by rw [reaD_n hp]; exact h) (fR_r I) (fR_r J) hwh
    · simp (disch := omega) only [g_X12_shopping_33, g_X12_shopping_34, g_X12_shopping_37, g_X12_shopping_38, g_X12_shopping_39, g_X12_shopping_40, g_X12_shopping_43, g_X12_shopping_46, g_X12_shopping_47, g_X12_shopping_50, g_X12_shopping_51, g_X12_shopping_52, g_X12_shopping_53, g_X12_shopping_56, g_X12_shopping_59, g_X12_shopping_60, lk_X12_shopping, XI, Nat.reduceAdd, Nat.reduceEqDiff, not_false_eq_true, nI_T1, nI_T0, true_and, and_true, WC, WV, WU, rs_b_0, rs_b_ok2, true_or, or_true, Classical.not_not, not_true_eq_false, if_true, if_false, reduceCtorEq, nI_10f, s_X12_isIngredient, c0, r_hasPlan _ _ _ _ _ _ _ _ h.1 hS.1, hp]
      refine r_isFound P n s I J R (d + 54) _ hS.1 h hp ?_
      intro I' J' h' f1 f2 hv
      by_cases hwh : ¬ whyD D = 0
      · simp (disch := omega) only [g_X12_shopping_63, g_X12_shopping_66, g_X12_shopping_68, lk_X12_shopping, XI, Nat.reduceAdd, Nat.reduceEqDiff, not_false_eq_true, nI_T1, nI_T0, true_and, and_true, WC, WV, WU, rs_b_0, rs_b_ok2, true_or, or_true, Classical.not_not, not_true_eq_false, if_true, if_false, reduceCtorEq, hwh]
        exact q0 I' J' h' f1 f2 hwh
      · have hwh := Classical.not_not.mp hwh
        obtain ⟨b1, b2, b3, b4⟩ := hv hwh
        obtain ⟨g1, g2, g3, g4, g5, g6, g7⟩ := h'.1.2.1 i hi
        simp (disch := omega) only [g_X12_shopping_63, g_X12_shopping_66, g_X12_shopping_68, g_X12_shopping_69, g_X12_shopping_70, g_X12_shopping_71, g_X12_shopping_74, lk_X12_shopping, XI, Nat.reduceAdd, Nat.reduceEqDiff, not_false_eq_true, nI_T1, nI_T0, true_and, and_true, WC, WV, WU, rs_b_0, rs_b_ok2, true_or, or_true, Classical.not_not, not_true_eq_false, if_true, if_false, reduceCtorEq, hwh, s_lackOf P n s R _ _ I' J' hi hA h9 (b2 i hi).1 (b2 i hi).2 g5]
        exact q1 I' J' h' f1 f2 hwh b2
  rw [em_X12_shopping]
  by_cases c1 : nI 0 ≤ nI u ∧ nI u ≤ nI 3
  · simp (disch := omega) only [g_X12_shopping_0, g_X12_shopping_1, g_X12_shopping_2, g_X12_shopping_3, g_X12_shopping_6, lk_X12_shopping, XI, Nat.reduceAdd, Nat.reduceEqDiff, not_false_eq_true, nI_T1, nI_T0, true_and, and_true, WC, WV, WU, rs_b_0, rs_b_ok2, true_or, or_true, Classical.not_not, not_true_eq_false, if_true, if_false, reduceCtorEq, s_X12_in, c1]
    exact go
  · have c2 : nI 10 ≤ nI u ∧ nI u ≤ nI (9 + (D.ig i).pk.length) := by
      rcases hw with q | q
      · exact absurd ⟨(nI_leS (by omega) (by omega)).mpr (Nat.zero_le u), (nI_leS (by omega) (by omega)).mpr q⟩ c1
      · exact ⟨(nI_leS (by omega) (by omega)).mpr q.1, (nI_leS (by omega) (by omega)).mpr (by omega)⟩
    simp (disch := omega) only [g_X12_shopping_0, g_X12_shopping_1, g_X12_shopping_2, g_X12_shopping_3, g_X12_shopping_6, g_X12_shopping_9, g_X12_shopping_10, g_X12_shopping_13, g_X12_shopping_16, g_X12_shopping_17, g_X12_shopping_19, g_X12_shopping_21, g_X12_shopping_22, g_X12_shopping_23, g_X12_shopping_26, g_X12_shopping_27, g_X12_shopping_30, lk_X12_shopping, XI, Nat.reduceAdd, Nat.reduceEqDiff, not_false_eq_true, nI_T1, nI_T0, true_and, and_true, WC, WV, WU, rs_b_0, rs_b_ok2, true_or, or_true, Classical.not_not, not_true_eq_false, if_true, if_false, reduceCtorEq, s_X12_in, c1, s_X12_isIngredient, c0, s_X12_packs, hP.1, nI_addS, c2]
    exact go
end
