/-! buying: the class's half -/
section
variable {D : Dt} {Ds : Option Dt} {L : List Dt} {tp : List Nat} {rea : Int32}
theorem c_buy (hS : SOk D Ds L tp) {w : Nat → Nat × Nat × Nat × Nat} (hw9 : chs D w) (d : Nat) (P : Nat → Option rs_C) (n s : Nat) (I : Nat → Nat → Int32) (J : Nat → Nat → Int64) (R : Nat → Nat → Option Nat) (Q : rs_H → Option Value → Prop) (h : CI P n I R D Ds L tp rea)
    (q3 : ∀ P' n' s' I' J' R', CI P' n' I' R' D Ds L tp (reaD D rea) → fC I I' → fC J J' → n' ≤ n + 100 → s' ≤ s + 1000 → (¬ whyD D = 0 ∨ (whyD D = 0 ∧ ¬ bK (unB D) 12 = 0)) → Q (sk_w P' n' s' I' J' R') (some (.int (-3))))
    (q4 : ∀ P' n' s' I' J' R', CI P' n' I' R' D Ds L tp (reaD D rea) → fC I I' → fC J J' → n' ≤ n + 100 → s' ≤ s + 1000 → whyD D = 0 → bK (unB D) 12 = 0 → (∃ i, i < 12 ∧ 999999 < stA D w i) → Q (sk_w P' n' s' I' J' R') (some (.int (-4))))
    (qE : ∀ P' n' s' I' J' R', CI P' n' I' R' (buI D w 12) Ds (nxL L D) tp (reaD D rea) → fC I I' → fC J J' → n' ≤ n + 100 → s' ≤ s + 1000 → whyD D = 0 → bK (unB D) 12 = 0 → (∀ i, i < 12 → stA D w i ≤ 999999) → Q (sk_w P' n' s' I' J' R') (some (.int (nI (sK (aP D w) 12))))) : rs_XM (d + 60) yX11_buy [.ref 1] (sk_w P n s I J R) Q := by
  have lu := bK_le (unB D) 12 (by decide)
  rw [em_X11_buy]
  simp (disch := omega) only [g_X11_buy_0, g_X11_buy_1, lk_X11_buy, XI, Nat.reduceAdd, Nat.reduceEqDiff, not_false_eq_true, nI_T1, nI_T0, true_and, and_true, WC, WV, WU]
  refine c_findPlan P n s I J R (d + 36) _ hS.1 h ?_
  intro I' J' h' f1 f2 hv
  by_cases hwh : ¬ whyD D = 0
  · simp (disch := omega) only [g_X11_buy_4, g_X11_buy_7, g_X11_buy_9, lk_X11_buy, XI, Nat.reduceAdd, Nat.reduceEqDiff, not_false_eq_true, nI_T1, nI_T0, true_and, and_true, WC, WV, WU, rs_b_0, rs_b_ok2, true_or, or_true, Classical.not_not, not_true_eq_false, if_true, if_false, reduceCtorEq, hwh]
    exact q3 P n s I' J' R h' f1 f2 (by omega) (by omega) (Or.inl hwh)
  · have hwh := Classical.not_not.mp hwh
    obtain ⟨b47, b49, b53, b45⟩ := hv hwh
    obtain ⟨q, hR, hq⟩ := h'.2.1
    simp (disch := omega) only [g_X11_buy_4, g_X11_buy_7, g_X11_buy_9, g_X11_buy_10, g_X11_buy_11, g_X11_buy_14, g_X11_buy_15, g_X11_buy_18, g_X11_buy_19, g_X11_buy_22, g_X11_buy_25, lk_X11_buy, XI, Nat.reduceAdd, Nat.reduceEqDiff, not_false_eq_true, nI_T1, nI_T0, true_and, and_true, WC, WV, WU, rs_b_0, rs_b_ok2, true_or, or_true, Classical.not_not, not_true_eq_false, if_true, if_false, reduceCtorEq, hwh, hR, va_rf, k_St P n s I' J' R hq]
    refine s_fill P n s R (d + 54) _ hq hS.1 hw9 I' J' b49 (fun I2 J2 k1 k2 hA => ?_)
    obtain ⟨a5, a6, a7, a8, a9, a10⟩ := hA
    have h2 := CI_F h' k1
    have g1 := fC_t f1 (fF_C k1)
    have g2 := fC_t f2 (fG_C k2)
    have c49 : ∀ i, i < 12 → J2 49 i = pkF (aftD D i) := fun i hi => by rw [k2 49 i (by decide) (by decide)]; exact b49 i hi
    by_cases hu : bK (unB D) 12 = 0
    · have h84 := h.1
      simp (disch := omega) only [g_X11_buy_28, g_X11_buy_29, g_X11_buy_32, g_X11_buy_35, g_X11_buy_38, g_X11_buy_40, g_X11_buy_41, g_X11_buy_42, g_X11_buy_45, lk_X11_buy, XI, Nat.reduceAdd, Nat.reduceEqDiff, not_false_eq_true, nI_T1, nI_T0, true_and, and_true, WC, WV, WU, rs_b_0, rs_b_ok2, true_or, or_true, Classical.not_not, not_true_eq_false, if_true, if_false, reduceCtorEq, s_auncoveredSet, a9, nI_eq0S, hu, not_true_eq_false, if_true, if_false, hR, va_rf, k_St P n s I2 J2 R hq]
      rw [em_X7_withoutPlan]
      simp (disch := omega) only [g_X7_withoutPlan_0, g_X7_withoutPlan_1, g_X7_withoutPlan_2, g_X7_withoutPlan_3, lk_X7_withoutPlan, XI, Nat.reduceAdd, Nat.reduceEqDiff, not_false_eq_true, nI_T1, nI_T0, true_and, and_true, WC, WV, WU, k_St P n s I2 J2 R hq]
      refine s_withPlan n s I2 J2 R (d + 55) _ h84 hq (o := none) (fun V h3 h4 => ⟨h3, _, h4⟩) ?_
      intro P1 V Ua Uc Ue o1 p1
      simp (disch := omega) only [g_X7_withoutPlan_6, lk_X7_withoutPlan, g_X11_buy_48, g_X11_buy_49, g_X11_buy_50, lk_X11_buy, XI, Nat.reduceAdd, Nat.reduceEqDiff, not_false_eq_true, nI_T1, nI_T0, true_and, and_true, WC, WV, WU]
      refine X11_bu_l (s0 := s) I2 J2 R d Q hS.1 hw9 h84 hq hR (fun i hi => a10 i hi) c49 (show n ≤ n + 2 by omega) (fun P' n' s' hP hn1 hn2 hs hex => ?_) (fun P' n' s' Uc' z3 z4 z5 hP hn1 hn2 hs ho hst => ?_) 12 0 P1 (n + 4) (s + 31) Uc none none none rfl p1 (by omega) (by omega) o1 (fun i hi => absurd hi (Nat.not_lt_zero i))
      · exact q4 P' n' s' I2 J2 R (CI_m h2 hP hn1) g1 g2 (by omega) (by omega) hwh hu hex
      · simp (disch := omega) only [g_X11_buy_143, g_X11_buy_144, g_X11_buy_145, lk_X11_buy, XI, Nat.reduceAdd, Nat.reduceEqDiff, not_false_eq_true, nI_T1, nI_T0, true_and, and_true, WC, WV, WU]
        refine s_commit2 n' s' I2 J2 R _ _ hS h2 hP hn1 (cSt_o.mpr ⟨_, _, _, _, _, _, _, ho⟩) ?_
        intro I3 R3 h3 f3 f4
        have e5 : I3 56 5 = nI (sK (aP D w) 12) := by rw [f4 56 5 (by decide)]; exact a5
        simp (disch := omega) only [g_X11_buy_148, g_X11_buy_149, g_X11_buy_152, g_X11_buy_155, lk_X11_buy, XI, Nat.reduceAdd, Nat.reduceEqDiff, not_false_eq_true, nI_T1, nI_T0, true_and, and_true, WC, WV, WU, s_aprice, e5]
        exact qE P' n' s' I3 J2 R3 h3 (fC_t g1 f3) g2 (by omega) (by omega) hwh hu hst
    · simp (disch := omega) only [g_X11_buy_28, g_X11_buy_29, g_X11_buy_32, g_X11_buy_35, g_X11_buy_38, g_X11_buy_40, lk_X11_buy, XI, Nat.reduceAdd, Nat.reduceEqDiff, not_false_eq_true, nI_T1, nI_T0, true_and, and_true, WC, WV, WU, rs_b_0, rs_b_ok2, true_or, or_true, Classical.not_not, not_true_eq_false, if_true, if_false, reduceCtorEq, s_auncoveredSet, a9, nI_eq0S, hu, not_false_eq_true, if_true, if_false]
      exact q3 P n s I2 J2 R h2 g1 g2 (by omega) (by omega) (Or.inr ⟨hwh, hu⟩)
end
