/-! the question for the shopping: both sides answer alike -/
section
variable {D : Dt} {Ds : Option Dt} {L : List Dt} {tp : List Nat} {rea : Int32}
/-- what is answered about a choice -/
def shA (D : Dt) (i B a b c u : Nat) : Nat := if u = 1 then B - lkD D i else if u = 2 then prc (D.ig i).pk a b c else if u = 3 then B else cnt a b c (u - 10)
theorem lkD_le {D : Dt} (hD : D.ok) {i : Nat} (hi : i < 12) : lkD D i ≤ 1000000000 := by
  have hA := aftD_ok hD i hi
  have := up1_le hA
  have := hA.1
  unfold lkD
  omega
theorem b_shop1 (hS : SOk D Ds L tp) {i : Nat} (hi : i < 12) {u : Nat} (hu : u ≤ 12) (hw : u ≤ 3 ∨ (10 ≤ u ∧ u < 10 + (D.ig i).pk.length)) : BC yX11_shopping yX12_shopping [.int (nI i), .int (nI u)] D Ds L tp rea := by
  have hl9 := lkD_le hS.1 hi
  have hg := hS.1.2.1 i hi
  have hln : lg_cmp (lN (lkD D i)) (lN 0) = 0 ↔ lkD D i = 0 := by rw [lg_cmp_eq, lN_inj (by omega) (by decide)]
  by_cases hu0 : u = 0
  · subst hu0
    refine BC_plan hS (.int (if whyD D = 0 then nI (lkD D i) else -3)) (Or.inl ⟨_, rfl⟩) (fun d P n s I J R Q h hQ => ?_) (fun d P n s I J R Q h hQ => ?_)
    · refine c_sh hS hi (by omega) hw d P n s I J R Q h (fun I' J' h' f1 f2 hwh => ?_) (fun I' J' y h' f1 f2 hwh hy => ?_)
      · rw [if_neg hwh] at hQ; exact hQ I' J' h' f1 f2
      · rw [if_pos hwh] at hQ
        simp (disch := omega) only [g_X11_shopping_67, g_X11_shopping_68, g_X11_shopping_71, g_X11_shopping_73, lk_X11_shopping, XI, Nat.reduceAdd, Nat.reduceEqDiff, not_false_eq_true, nI_T1, nI_T0, true_and, and_true, WC, WV, WU, rs_b_0, rs_b_ok2, true_or, or_true, Classical.not_not, not_true_eq_false, if_true, if_false, reduceCtorEq, nI_00, not_true_eq_false, if_false]
        exact hQ I' J' h' f1 f2
    · refine r_sh hS hi (by omega) hw d P n s I J R Q h (fun I' J' h' f1 f2 hwh => ?_) (fun I' J' h' f1 f2 hwh hm => ?_)
      · rw [if_neg hwh] at hQ; exact hQ I' J' h' f1 f2
      · rw [if_pos hwh] at hQ
        simp (disch := omega) only [g_X12_shopping_76, g_X12_shopping_77, g_X12_shopping_80, g_X12_shopping_82, g_X12_shopping_83, g_X12_shopping_84, g_X12_shopping_87, g_X12_shopping_89, g_X12_shopping_90, lk_X12_shopping, XI, Nat.reduceAdd, Nat.reduceEqDiff, not_false_eq_true, nI_T1, nI_T0, true_and, and_true, WC, WV, WU, rs_b_0, rs_b_ok2, true_or, or_true, Classical.not_not, not_true_eq_false, if_true, if_false, reduceCtorEq, nI_00, if_true, lN_i]
        exact hQ I' J' h' f1 f2
  · by_cases hl0 : lkD D i = 0
    · refine BC_plan hS (.int (if whyD D = 0 then nI 0 else -3)) (Or.inl ⟨_, rfl⟩) (fun d P n s I J R Q h hQ => ?_) (fun d P n s I J R Q h hQ => ?_)
      · refine c_sh hS hi hu hw d P n s I J R Q h (fun I' J' h' f1 f2 hwh => ?_) (fun I' J' y h' f1 f2 hwh hy => ?_)
        · rw [if_neg hwh] at hQ; exact hQ I' J' h' f1 f2
        · rw [if_pos hwh] at hQ
          simp (disch := omega) only [g_X11_shopping_67, g_X11_shopping_68, g_X11_shopping_71, g_X11_shopping_73, g_X11_shopping_74, g_X11_shopping_76, g_X11_shopping_79, g_X11_shopping_80, lk_X11_shopping, XI, Nat.reduceAdd, Nat.reduceEqDiff, not_false_eq_true, nI_T1, nI_T0, true_and, and_true, WC, WV, WU, rs_b_0, rs_b_ok2, true_or, or_true, Classical.not_not, not_true_eq_false, if_true, if_false, reduceCtorEq, nI_eq0S, hu0, hl0, not_true_eq_false, not_false_eq_true, if_true, if_false]
          exact hQ I' J' h' f1 f2
      · refine r_sh hS hi hu hw d P n s I J R Q h (fun I' J' h' f1 f2 hwh => ?_) (fun I' J' h' f1 f2 hwh hm => ?_)
        · rw [if_neg hwh] at hQ; exact hQ I' J' h' f1 f2
        · rw [if_pos hwh] at hQ
          have e1 := hln.mpr hl0
          simp (disch := omega) only [g_X12_shopping_76, g_X12_shopping_77, g_X12_shopping_80, g_X12_shopping_82, g_X12_shopping_83, g_X12_shopping_84, g_X12_shopping_87, g_X12_shopping_89, g_X12_shopping_90, lk_X12_shopping, XI, Nat.reduceAdd, Nat.reduceEqDiff, not_false_eq_true, nI_T1, nI_T0, true_and, and_true, WC, WV, WU, rs_b_0, rs_b_ok2, true_or, or_true, Classical.not_not, not_true_eq_false, if_true, if_false, reduceCtorEq, nI_eq0S, hu0, e1, not_true_eq_false, if_false, lN_i]
          rw [hl0]
          exact hQ I' J' h' f1 f2
    · have hne : ¬ lg_cmp (lN (lkD D i)) (lN 0) = 0 := fun z => hl0 (hln.mp z)
      by_cases hpk : 0 < (D.ig i).pk.length ∧ lkD D i ≤ 5000
      · have hp := pkOk_of hS.1 hi (by omega)
        obtain ⟨B, a, b, c, hb⟩ := Bst_ex hp (lkD D i)
        have hb1 := hb.1
        have hb2 := hb.2.1
        have hb4 := hb.2.2.2.1
        have hprc := prc_le hp hb4
        refine BC_plan hS (.int (if whyD D = 0 then nI (shA D i B a b c u) else -3)) (Or.inl ⟨_, rfl⟩) (fun d P n s I J R Q h hQ => ?_) (fun d P n s I J R Q h hQ => ?_)
        · refine c_sh hS hi hu hw d P n s I J R Q h (fun I' J' h' f1 f2 hwh => ?_) (fun I' J' y h' f1 f2 hwh hy => ?_)
          · rw [if_neg hwh] at hQ; exact hQ I' J' h' f1 f2
          · rw [if_pos hwh] at hQ
            simp (disch := omega) only [g_X11_shopping_67, g_X11_shopping_68, g_X11_shopping_71, g_X11_shopping_73, g_X11_shopping_74, g_X11_shopping_76, g_X11_shopping_79, g_X11_shopping_80, g_X11_shopping_81, g_X11_shopping_82, g_X11_shopping_84, g_X11_shopping_87, g_X11_shopping_90, g_X11_shopping_92, g_X11_shopping_93, g_X11_shopping_94, g_X11_shopping_97, g_X11_shopping_98, g_X11_shopping_100, lk_X11_shopping, XI, Nat.reduceAdd, Nat.reduceEqDiff, not_false_eq_true, nI_T1, nI_T0, true_and, and_true, WC, WV, WU, rs_b_0, rs_b_ok2, true_or, or_true, Classical.not_not, not_true_eq_false, if_true, if_false, reduceCtorEq, nI_eq0S, hu0, hl0, not_true_eq_false, not_false_eq_true, if_true, if_false, k_Ig P n s I' J' R hy, g_hasPacksFor n s I' J' R _ _ hy hg, hpk, and_self]
            refine s_choose P n s I' J' R (d + 56) _ hy hp (by omega) hpk.2 hb (fun J2 hj2 => ?_)
            have hC2 : CI P n (rs_u2 (rs_u2 I' 56 2 (nI B)) 56 3 (nI (B - lkD D i))) R D Ds L tp (reaD D rea) := CI_f h' (by rw [rs_u2_ne _ _ (by omega), rs_u2_ne _ _ (by omega)]) (by rw [rs_u2_ne _ _ (by omega), rs_u2_ne _ _ (by omega)]) (fun j => by rw [rs_u2_ne _ _ (by omega), rs_u2_ne _ _ (by omega)]) (by rw [rs_u2_ne _ _ (by omega), rs_u2_ne _ _ (by omega)]; exact h'.2.2.2.2.2.1)
            have hQ2 := hQ (rs_u2 (rs_u2 I' 56 2 (nI B)) 56 3 (nI (B - lkD D i))) (rs_u2 J2 56 1 (lN (67108863 + wgt (D.ig i).pk a b c))) hC2 (fC_u (fC_u f1 (by decide)) (by decide)) (fC_u (fC_t f2 (fun q j e => hj2 q j (by omega))) (by decide))
            have e2 : rs_u2 (rs_u2 I' 56 2 (nI B)) 56 3 (nI (B - lkD D i)) 56 2 = nI B := by rw [rs_u2_ne _ _ (by omega), rs_u2_eq]
            have e3 : rs_u2 (rs_u2 I' 56 2 (nI B)) 56 3 (nI (B - lkD D i)) 56 3 = nI (B - lkD D i) := rs_u2_eq _ _ _ _
            have e1 : rs_u2 J2 56 1 (lN (67108863 + wgt (D.ig i).pk a b c)) 56 1 = lN (67108863 + wgt (D.ig i).pk a b c) := rs_u2_eq _ _ _ _
            generalize rs_u2 (rs_u2 I' 56 2 (nI B)) 56 3 (nI (B - lkD D i)) = I2 at *
            generalize rs_u2 J2 56 1 (lN (67108863 + wgt (D.ig i).pk a b c)) = J3 at *
            have u4 : u = 1 ∨ u = 2 ∨ u = 3 ∨ 10 ≤ u := by omega
            rcases u4 with eu | eu | eu | eu
            · subst eu
              simp (disch := omega) only [g_X11_shopping_103, g_X11_shopping_104, g_X11_shopping_132, g_X11_shopping_133, g_X11_shopping_136, g_X11_shopping_139, lk_X11_shopping, XI, Nat.reduceAdd, Nat.reduceEqDiff, not_false_eq_true, nI_T1, nI_T0, true_and, and_true, WC, WV, WU, rs_b_0, rs_b_ok2, true_or, or_true, Classical.not_not, not_true_eq_false, if_true, if_false, reduceCtorEq, s_cWaste, e3]
              exact hQ2
            · subst eu
              simp (disch := omega) only [g_X11_shopping_103, g_X11_shopping_104, lk_X11_shopping, g_X11_shopping_140, g_X11_shopping_141, g_X11_shopping_144, g_X11_shopping_147, lk_X11_shopping, XI, Nat.reduceAdd, Nat.reduceEqDiff, not_false_eq_true, nI_T1, nI_T0, true_and, and_true, WC, WV, WU, rs_b_0, rs_b_ok2, true_or, or_true, Classical.not_not, not_true_eq_false, if_true, if_false, reduceCtorEq, nI_12f, s_cPrice P n s I2 J3 R _ _ hp (show B < 7000 by omega) hb4 e1]
              exact hQ2
            · subst eu
              simp (disch := omega) only [g_X11_shopping_103, g_X11_shopping_104, lk_X11_shopping, g_X11_shopping_148, g_X11_shopping_149, g_X11_shopping_152, g_X11_shopping_155, lk_X11_shopping, XI, Nat.reduceAdd, Nat.reduceEqDiff, not_false_eq_true, nI_T1, nI_T0, true_and, and_true, WC, WV, WU, rs_b_0, rs_b_ok2, true_or, or_true, Classical.not_not, not_true_eq_false, if_true, if_false, reduceCtorEq, s_cGrams, e2]
              exact hQ2
            · have hk3 : u - 10 < 3 := by have := hg.2.2.2.2.2.1; omega
              have ev : shA D i B a b c u = cnt a b c (u - 10) := by
                unfold shA
                rw [if_neg (by omega), if_neg (by omega), if_neg (by omega)]
              have n1 : ¬ u = 1 := by omega
              have n2 : ¬ u = 2 := by omega
              have n3 : ¬ u = 3 := by omega
              rw [ev] at hQ2
              simp (disch := omega) only [g_X11_shopping_103, g_X11_shopping_104, lk_X11_shopping, g_X11_shopping_156, g_X11_shopping_157, g_X11_shopping_160, g_X11_shopping_161, g_X11_shopping_163, g_X11_shopping_164, g_X11_shopping_167, lk_X11_shopping, XI, Nat.reduceAdd, Nat.reduceEqDiff, not_false_eq_true, nI_T1, nI_T0, true_and, and_true, WC, WV, WU, rs_b_0, rs_b_ok2, true_or, or_true, Classical.not_not, not_true_eq_false, if_true, if_false, reduceCtorEq, nI_eqS, n1, n2, n3, if_false, nI_subS, s_cNumber P n s I2 J3 R _ _ hp hk3 (show B < 7000 by omega) hb4 e1]
              exact hQ2
        · refine r_sh hS hi hu hw d P n s I J R Q h (fun I' J' h' f1 f2 hwh => ?_) (fun I' J' h' f1 f2 hwh hm => ?_)
          · rw [if_neg hwh] at hQ; exact hQ I' J' h' f1 f2
          · rw [if_pos hwh] at hQ
            have hP := mPk_of h'.1 hi
            obtain ⟨g1, g2, g3, g4, g5, g6, g7⟩ := h'.1.2.1 i hi
            have h3 := hg.2.2.2.2.2.1
            have e0 : ¬ (D.ig i).pk.length = 0 := by omega
            have c1 : lg_cmp (lN (lkD D i)) (lN 5000) ≤ 0 := (lg_cmp_le _ _).mpr ((pk_lLE (by omega) (by decide)).mpr hpk.2)
            simp (disch := omega) only [g_X12_shopping_76, g_X12_shopping_77, g_X12_shopping_80, g_X12_shopping_82, g_X12_shopping_83, g_X12_shopping_84, g_X12_shopping_87, g_X12_shopping_89, g_X12_shopping_90, g_X12_shopping_91, g_X12_shopping_92, g_X12_shopping_93, g_X12_shopping_96, g_X12_shopping_99, g_X12_shopping_101, g_X12_shopping_104, g_X12_shopping_105, g_X12_shopping_108, g_X12_shopping_110, g_X12_shopping_111, g_X12_shopping_112, g_X12_shopping_113, lk_X12_shopping, XI, Nat.reduceAdd, Nat.reduceEqDiff, not_false_eq_true, nI_T1, nI_T0, true_and, and_true, WC, WV, WU, rs_b_0, rs_b_ok2, true_or, or_true, Classical.not_not, not_true_eq_false, if_true, if_false, reduceCtorEq, nI_eq0S, hu0, hne, e0, not_false_eq_true, if_true, if_false, s_X12_packs, hP.1, c1]
            refine s_shop P n s R (d + 54) _ I' J' hi hp hP (aftD_ok hS.1 i hi) hg.2.2.2.2.1 (hm i hi).1 (hm i hi).2 g5 rfl (by unfold lkD at hl0; omega) hpk.2 hb h'.2.2.2.2.2.2.2 (fun I2 J2 k1 k2 k3 k4 k5 k6 => ?_)
            have hQ2 := hQ I2 J2 (RI_X h' k1 k3) (fR_t f1 (fX_R k1)) (fR_t f2 (fS_R k2))
            have hP2 := mPk_X k1 hP
            have k6 : J2 61 29 = lN (lkD D i) := k6
            have u4 : u = 1 ∨ u = 2 ∨ u = 3 ∨ 10 ≤ u := by omega
            rcases u4 with eu | eu | eu | eu
            · subst eu
              simp (disch := omega) only [g_X12_shopping_116, g_X12_shopping_117, g_X12_shopping_118, g_X12_shopping_121, g_X12_shopping_122, g_X12_shopping_125, g_X12_shopping_126, g_X12_shopping_129, g_X12_shopping_130, g_X12_shopping_131, lk_X12_shopping, g_X12_shopping_176, lk_X12_shopping, XI, Nat.reduceAdd, Nat.reduceEqDiff, not_false_eq_true, nI_T1, nI_T0, true_and, and_true, WC, WV, WU, rs_b_0, rs_b_ok2, true_or, or_true, Classical.not_not, not_true_eq_false, if_true, if_false, reduceCtorEq, not_true_eq_false, if_false, k5, k6, lN_sub, lN_i]
              exact hQ2
            · subst eu
              simp (disch := omega) only [g_X12_shopping_116, g_X12_shopping_117, g_X12_shopping_118, lk_X12_shopping, g_X12_shopping_134, g_X12_shopping_135, g_X12_shopping_136, g_X12_shopping_139, g_X12_shopping_140, g_X12_shopping_141, g_X12_shopping_142, g_X12_shopping_145, g_X12_shopping_146, g_X12_shopping_149, g_X12_shopping_150, lk_X12_shopping, g_X12_shopping_176, lk_X12_shopping, XI, Nat.reduceAdd, Nat.reduceEqDiff, not_false_eq_true, nI_T1, nI_T0, true_and, and_true, WC, WV, WU, rs_b_0, rs_b_ok2, true_or, or_true, Classical.not_not, not_true_eq_false, if_true, if_false, reduceCtorEq, nI_eqS, Nat.reduceEqDiff, not_true_eq_false, not_false_eq_true, if_true, if_false, s_so_p79 P n s I2 J2 R _ _ hi hp hP2 k4, lN_i]
              exact hQ2
            · subst eu
              simp (disch := omega) only [g_X12_shopping_116, g_X12_shopping_117, g_X12_shopping_118, lk_X12_shopping, g_X12_shopping_134, g_X12_shopping_135, g_X12_shopping_136, lk_X12_shopping, g_X12_shopping_153, g_X12_shopping_154, g_X12_shopping_155, g_X12_shopping_158, g_X12_shopping_159, g_X12_shopping_162, g_X12_shopping_163, lk_X12_shopping, g_X12_shopping_176, lk_X12_shopping, XI, Nat.reduceAdd, Nat.reduceEqDiff, not_false_eq_true, nI_T1, nI_T0, true_and, and_true, WC, WV, WU, rs_b_0, rs_b_ok2, true_or, or_true, Classical.not_not, not_true_eq_false, if_true, if_false, reduceCtorEq, nI_eqS, Nat.reduceEqDiff, not_true_eq_false, not_false_eq_true, if_true, if_false, k5, lN_i]
              exact hQ2
            · have hk3 : u - 10 < 3 := by omega
              have ev : shA D i B a b c u = cnt a b c (u - 10) := by
                unfold shA
                rw [if_neg (by omega), if_neg (by omega), if_neg (by omega)]
              have n1 : ¬ u = 1 := by omega
              have n2 : ¬ u = 2 := by omega
              have n3 : ¬ u = 3 := by omega
              have k7 := k4 (u - 10) hk3
              rw [ev] at hQ2
              simp (disch := omega) only [g_X12_shopping_116, g_X12_shopping_117, g_X12_shopping_118, lk_X12_shopping, g_X12_shopping_134, g_X12_shopping_135, g_X12_shopping_136, lk_X12_shopping, g_X12_shopping_153, g_X12_shopping_154, g_X12_shopping_155, lk_X12_shopping, g_X12_shopping_166, g_X12_shopping_167, g_X12_shopping_170, g_X12_shopping_171, g_X12_shopping_173, g_X12_shopping_174, g_X12_shopping_175, g_X12_shopping_176, lk_X12_shopping, XI, Nat.reduceAdd, Nat.reduceEqDiff, not_false_eq_true, nI_T1, nI_T0, true_and, and_true, WC, WV, WU, rs_b_0, rs_b_ok2, true_or, or_true, Classical.not_not, not_true_eq_false, if_true, if_false, reduceCtorEq, nI_eqS, n1, n2, n3, not_true_eq_false, not_false_eq_true, if_true, if_false, nI_subS, nI_cl, rs_in_t, k7, lN_i]
              exact hQ2
      · refine BC_plan hS (.int (if whyD D = 0 then -5 else -3)) (Or.inl ⟨_, rfl⟩) (fun d P n s I J R Q h hQ => ?_) (fun d P n s I J R Q h hQ => ?_)
        · refine c_sh hS hi hu hw d P n s I J R Q h (fun I' J' h' f1 f2 hwh => ?_) (fun I' J' y h' f1 f2 hwh hy => ?_)
          · rw [if_neg hwh] at hQ; exact hQ I' J' h' f1 f2
          · rw [if_pos hwh] at hQ
            simp (disch := omega) only [g_X11_shopping_67, g_X11_shopping_68, g_X11_shopping_71, g_X11_shopping_73, g_X11_shopping_74, g_X11_shopping_76, g_X11_shopping_79, g_X11_shopping_80, g_X11_shopping_81, g_X11_shopping_82, g_X11_shopping_84, g_X11_shopping_87, g_X11_shopping_90, g_X11_shopping_92, lk_X11_shopping, XI, Nat.reduceAdd, Nat.reduceEqDiff, not_false_eq_true, nI_T1, nI_T0, true_and, and_true, WC, WV, WU, rs_b_0, rs_b_ok2, true_or, or_true, Classical.not_not, not_true_eq_false, if_true, if_false, reduceCtorEq, nI_eq0S, hu0, hl0, not_true_eq_false, not_false_eq_true, if_true, if_false, k_Ig P n s I' J' R hy, g_hasPacksFor n s I' J' R _ _ hy hg, hpk]
            exact hQ I' J' h' f1 f2
        · refine r_sh hS hi hu hw d P n s I J R Q h (fun I' J' h' f1 f2 hwh => ?_) (fun I' J' h' f1 f2 hwh hm => ?_)
          · rw [if_neg hwh] at hQ; exact hQ I' J' h' f1 f2
          · rw [if_pos hwh] at hQ
            have hP := mPk_of h'.1 hi
            have h3 := hg.2.2.2.2.2.1
            simp (disch := omega) only [g_X12_shopping_76, g_X12_shopping_77, g_X12_shopping_80, g_X12_shopping_82, g_X12_shopping_83, g_X12_shopping_84, g_X12_shopping_87, g_X12_shopping_89, g_X12_shopping_90, g_X12_shopping_91, g_X12_shopping_92, g_X12_shopping_93, g_X12_shopping_96, lk_X12_shopping, XI, Nat.reduceAdd, Nat.reduceEqDiff, not_false_eq_true, nI_T1, nI_T0, true_and, and_true, WC, WV, WU, rs_b_0, rs_b_ok2, true_or, or_true, Classical.not_not, not_true_eq_false, if_true, if_false, reduceCtorEq, nI_eq0S, hu0, hne, not_false_eq_true, if_true, if_false, s_X12_packs, hP.1]
            by_cases e0 : (D.ig i).pk.length = 0
            · rw [if_pos e0]
              simp (disch := omega) only [g_X12_shopping_108, g_X12_shopping_110, lk_X12_shopping, XI, Nat.reduceAdd, Nat.reduceEqDiff, not_false_eq_true, nI_T1, nI_T0, true_and, and_true, WC, WV, WU, rs_b_0, rs_b_ok2, true_or, or_true, Classical.not_not, not_true_eq_false, if_true, if_false, reduceCtorEq]
              exact hQ I' J' h' f1 f2
            · rw [if_neg e0]
              have c1 : ¬ lg_cmp (lN (lkD D i)) (lN 5000) ≤ 0 := fun z => by
                have := (pk_lLE (a := lkD D i) (b := 5000) (by omega) (by decide)).mp ((lg_cmp_le _ _).mp z)
                omega
              simp (disch := omega) only [g_X12_shopping_99, g_X12_shopping_101, g_X12_shopping_104, g_X12_shopping_105, g_X12_shopping_108, g_X12_shopping_110, lk_X12_shopping, XI, Nat.reduceAdd, Nat.reduceEqDiff, not_false_eq_true, nI_T1, nI_T0, true_and, and_true, WC, WV, WU, rs_b_0, rs_b_ok2, true_or, or_true, Classical.not_not, not_true_eq_false, if_true, if_false, reduceCtorEq, c1, if_false]
              exact hQ I' J' h' f1 f2
theorem b_shopping (hS : SOk D Ds L tp) (x0 x1 : Int32) : BC yX11_shopping yX12_shopping [.int x0, .int x1] D Ds L tp rea := by
  by_cases c0 : nI 0 ≤ x0 ∧ x0 ≤ nI 11
  · obtain ⟨i, -, hi, rfl⟩ := (nI_within (by decide) (by decide)).mp c0
    have hg := hS.1.2.1 i (by omega)
    have h3 := hg.2.2.2.2.2.1
    by_cases c1 : nI 0 ≤ x1 ∧ x1 ≤ nI 3
    · obtain ⟨u, -, hu, rfl⟩ := (nI_within (by decide) (by decide)).mp c1
      exact b_shop1 hS (by omega) (by omega) (Or.inl hu)
    · by_cases c2 : nI 10 ≤ x1 ∧ x1 ≤ nI (9 + (D.ig i).pk.length)
      · obtain ⟨u, hu0, hu, rfl⟩ := (nI_within (by decide) (by omega)).mp c2
        exact b_shop1 hS (by omega) (by omega) (Or.inr ⟨hu0, by omega⟩)
      · refine BC_same hS (.int (-1)) (Or.inl ⟨_, rfl⟩) (fun d P n s I J R Q h hQ => ?_) (fun d P n s I J R Q h hQ => ?_)
        · obtain ⟨q, hR, hq⟩ := h.2.1
          obtain ⟨y, hy, cy⟩ := g_ingredientAt hq (show i < 12 by omega)
          rw [em_X11_shopping]
          simp (disch := omega) only [g_X11_shopping_0, g_X11_shopping_1, g_X11_shopping_4, g_X11_shopping_5, g_X11_shopping_8, g_X11_shopping_9, g_X11_shopping_10, g_X11_shopping_13, g_X11_shopping_14, g_X11_shopping_15, g_X11_shopping_16, g_X11_shopping_19, g_X11_shopping_22, g_X11_shopping_23, g_X11_shopping_25, g_X11_shopping_27, g_X11_shopping_28, g_X11_shopping_31, g_X11_shopping_32, g_X11_shopping_35, g_X11_shopping_38, g_X11_shopping_39, lk_X11_shopping, XI, Nat.reduceAdd, Nat.reduceEqDiff, not_false_eq_true, nI_T1, nI_T0, true_and, and_true, WC, WV, WU, rs_b_0, rs_b_ok2, true_or, or_true, Classical.not_not, not_true_eq_false, if_true, if_false, reduceCtorEq, hR, va_rf, k_St P n s I J R hq, cy, s_X11_isWithin, c1, k_Ig P n s I J R hy, g_packCount n s I J R _ _ hy, nI_addS, c2]
          exact hQ
        · have hP := mPk_of h.1 (show i < 12 by omega)
          rw [em_X12_shopping]
          simp (disch := omega) only [g_X12_shopping_0, g_X12_shopping_1, g_X12_shopping_2, g_X12_shopping_3, g_X12_shopping_6, g_X12_shopping_9, g_X12_shopping_10, g_X12_shopping_13, g_X12_shopping_16, g_X12_shopping_17, g_X12_shopping_19, g_X12_shopping_21, g_X12_shopping_22, g_X12_shopping_23, g_X12_shopping_26, g_X12_shopping_27, g_X12_shopping_30, g_X12_shopping_33, g_X12_shopping_34, g_X12_shopping_37, g_X12_shopping_38, g_X12_shopping_39, g_X12_shopping_40, g_X12_shopping_43, g_X12_shopping_46, g_X12_shopping_47, g_X12_shopping_50, g_X12_shopping_51, lk_X12_shopping, XI, Nat.reduceAdd, Nat.reduceEqDiff, not_false_eq_true, nI_T1, nI_T0, true_and, and_true, WC, WV, WU, rs_b_0, rs_b_ok2, true_or, or_true, Classical.not_not, not_true_eq_false, if_true, if_false, reduceCtorEq, s_X12_in, c1, s_X12_isIngredient, c0, s_X12_packs, hP.1, nI_addS, c2]
          exact hQ
  · refine BC_same hS (.int (-1)) (Or.inl ⟨_, rfl⟩) (fun d P n s I J R Q h hQ => ?_) (fun d P n s I J R Q h hQ => ?_)
    · obtain ⟨q, hR, hq⟩ := h.2.1
      rw [em_X11_shopping]
      simp (disch := omega) only [g_X11_shopping_0, g_X11_shopping_1, g_X11_shopping_4, g_X11_shopping_5, g_X11_shopping_8, g_X11_shopping_9, g_X11_shopping_10, g_X11_shopping_13, g_X11_shopping_14, g_X11_shopping_15, g_X11_shopping_16, g_X11_shopping_19, g_X11_shopping_22, g_X11_shopping_23, g_X11_shopping_25, g_X11_shopping_27, g_X11_shopping_28, g_X11_shopping_31, g_X11_shopping_32, g_X11_shopping_35, g_X11_shopping_38, g_X11_shopping_39, lk_X11_shopping, XI, Nat.reduceAdd, Nat.reduceEqDiff, not_false_eq_true, nI_T1, nI_T0, true_and, and_true, WC, WV, WU, rs_b_0, rs_b_ok2, true_or, or_true, Classical.not_not, not_true_eq_false, if_true, if_false, reduceCtorEq, hR, va_rf, k_St P n s I J R hq, g_ingredientAt_o n s I J R _ _ hq c0]
      exact hQ
    · rw [em_X12_shopping]
      by_cases c1 : nI 0 ≤ x1 ∧ x1 ≤ nI 3
      · simp (disch := omega) only [g_X12_shopping_0, g_X12_shopping_1, g_X12_shopping_2, g_X12_shopping_3, g_X12_shopping_6, g_X12_shopping_9, g_X12_shopping_10, g_X12_shopping_13, g_X12_shopping_16, g_X12_shopping_17, g_X12_shopping_19, g_X12_shopping_21, g_X12_shopping_22, g_X12_shopping_23, g_X12_shopping_26, g_X12_shopping_27, g_X12_shopping_30, g_X12_shopping_33, g_X12_shopping_34, g_X12_shopping_37, g_X12_shopping_38, g_X12_shopping_39, g_X12_shopping_40, g_X12_shopping_43, g_X12_shopping_46, g_X12_shopping_47, g_X12_shopping_50, g_X12_shopping_51, lk_X12_shopping, XI, Nat.reduceAdd, Nat.reduceEqDiff, not_false_eq_true, nI_T1, nI_T0, true_and, and_true, WC, WV, WU, rs_b_0, rs_b_ok2, true_or, or_true, Classical.not_not, not_true_eq_false, if_true, if_false, reduceCtorEq, s_X12_in, c1, s_X12_isIngredient, c0]
        exact hQ
      · simp (disch := omega) only [g_X12_shopping_0, g_X12_shopping_1, g_X12_shopping_2, g_X12_shopping_3, g_X12_shopping_6, g_X12_shopping_9, g_X12_shopping_10, g_X12_shopping_13, g_X12_shopping_16, g_X12_shopping_17, g_X12_shopping_19, g_X12_shopping_21, g_X12_shopping_22, g_X12_shopping_23, g_X12_shopping_26, g_X12_shopping_27, g_X12_shopping_30, g_X12_shopping_33, g_X12_shopping_34, g_X12_shopping_37, g_X12_shopping_38, g_X12_shopping_39, g_X12_shopping_40, g_X12_shopping_43, g_X12_shopping_46, g_X12_shopping_47, g_X12_shopping_50, g_X12_shopping_51, lk_X12_shopping, XI, Nat.reduceAdd, Nat.reduceEqDiff, not_false_eq_true, nI_T1, nI_T0, true_and, and_true, WC, WV, WU, rs_b_0, rs_b_ok2, true_or, or_true, Classical.not_not, not_true_eq_false, if_true, if_false, reduceCtorEq, s_X12_in, c1, s_X12_isIngredient, c0]
        exact hQ
end
