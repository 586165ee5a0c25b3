/-! buying: both sides -/
section
variable {D : Dt} {Ds : Option Dt} {L : List Dt} {tp : List Nat} {rea : Int32}
theorem r_buy (hS : SOk D Ds L tp) {w : Nat → Nat × Nat × Nat × Nat} (hw9 : chs D w) (d : Nat) (P : Nat → Option rs_C) (n s : Nat) (I : Nat → Nat → Int32) (J : Nat → Nat → Int64) (R : Nat → Nat → Option Nat) (Q : rs_H → Option Value → Prop) (h : RI I D Ds L tp rea)
    (q3 : ∀ I' J', RI I' D Ds L tp (reaD D rea) → fR I I' → fR J J' → (¬ whyD D = 0 ∨ (whyD D = 0 ∧ ¬ bK (unB D) 12 = 0)) → Q (sk_w P n s I' J' R) (some (.int (-3))))
    (q4 : ∀ I' J', RI I' D Ds L tp (reaD D rea) → fR I I' → fR J J' → whyD D = 0 → bK (unB D) 12 = 0 → (∃ i, i < 12 ∧ 999999 < stA D w i) → Q (sk_w P n s I' J' R) (some (.int (-4))))
    (qE : ∀ I' J', RI I' (buI D w 12) Ds (nxL L D) tp (reaD D rea) → fR I I' → fR J J' → whyD D = 0 → bK (unB D) 12 = 0 → (∀ i, i < 12 → stA D w i ≤ 999999) → Q (sk_w P n s I' J' R) (some (.int (nI (sK (aP D w) 12))))) : rs_XM (d + 60) yX12_buy [.ref 61] (sk_w P n s I J R) Q := by
  have lu := bK_le (unB D) 12 (by decide)
  have hL := hS.2.2.1
  rw [em_X12_buy]
  by_cases hp : D.pl = none
  · have hwh : ¬ whyD D = 0 := fun z => whyD_p z hp
    simp (disch := omega) only [g_X12_buy_0, g_X12_buy_1, g_X12_buy_4, lk_X12_buy, g_X12_buy_14, g_X12_buy_16, lk_X12_buy, XI, Nat.reduceAdd, Nat.reduceEqDiff, not_false_eq_true, nI_T1, nI_T0, true_and, and_true, WC, WV, WU, rs_b_0, rs_b_ok2, true_or, or_true, Classical.not_not, not_true_eq_false, if_true, if_false, reduceCtorEq, r_hasPlan _ _ _ _ _ _ _ _ h.1 hS.1, hp]
    exact q3 I J (by rw [reaD_n hp]; exact h) (fR_r I) (fR_r J) (Or.inl hwh)
  · simp (disch := omega) only [g_X12_buy_0, g_X12_buy_1, g_X12_buy_4, g_X12_buy_7, g_X12_buy_8, lk_X12_buy, XI, Nat.reduceAdd, Nat.reduceEqDiff, not_false_eq_true, nI_T1, nI_T0, true_and, and_true, WC, WV, WU, rs_b_0, rs_b_ok2, true_or, or_true, Classical.not_not, not_true_eq_false, if_true, if_false, reduceCtorEq, r_hasPlan _ _ _ _ _ _ _ _ h.1 hS.1, hp]
    refine r_isFound P n s I J R (d + 54) _ hS.1 h hp ?_
    intro I' J' h' f1 f2 hv
    by_cases hwh : ¬ whyD D = 0
    · simp (disch := omega) only [g_X12_buy_11, g_X12_buy_14, g_X12_buy_16, lk_X12_buy, XI, Nat.reduceAdd, Nat.reduceEqDiff, not_false_eq_true, nI_T1, nI_T0, true_and, and_true, WC, WV, WU, rs_b_0, rs_b_ok2, true_or, or_true, Classical.not_not, not_true_eq_false, if_true, if_false, reduceCtorEq, hwh]
      exact q3 I' J' h' f1 f2 (Or.inl hwh)
    · have hwh := Classical.not_not.mp hwh
      obtain ⟨b1, b2, b3, b4⟩ := hv hwh
      simp (disch := omega) only [g_X12_buy_11, lk_X12_buy, g_X12_buy_17, g_X12_buy_18, lk_X12_buy, XI, Nat.reduceAdd, Nat.reduceEqDiff, not_false_eq_true, nI_T1, nI_T0, true_and, and_true, WC, WV, WU, rs_b_0, rs_b_ok2, true_or, or_true, Classical.not_not, not_true_eq_false, if_true, if_false, reduceCtorEq, hwh]
      refine s_shopAll P n s R (d + 53) _ hS.1 hw9 I' J' h'.1 b2 h'.2.2.2.2.2.2.2 (fun I2 J2 k1 k2 k3 hA => ?_)
      obtain ⟨a5, a6, a7, a8, a9, a10⟩ := hA
      have h2 := RI_Y h' k1 k3
      have g1 := fR_t f1 (fY_R k1)
      have g2 := fR_t f2 (fZ_R k2)
      have hm2 : mS J2 67 68 12 (aftD D) := fun i hi => by
        rw [k2 67 i (by omega) (by decide) (by decide) (by decide) (by decide), k2 68 i (by omega) (by decide) (by decide) (by decide) (by decide)]
        exact b2 i hi
      by_cases hu : bK (unB D) 12 = 0
      · simp (disch := omega) only [g_X12_buy_21, g_X12_buy_22, g_X12_buy_25, g_X12_buy_28, g_X12_buy_30, g_X12_buy_31, g_X12_buy_32, lk_X12_buy, XI, Nat.reduceAdd, Nat.reduceEqDiff, not_false_eq_true, nI_T1, nI_T0, true_and, and_true, WC, WV, WU, rs_b_0, rs_b_ok2, true_or, or_true, Classical.not_not, not_true_eq_false, if_true, if_false, reduceCtorEq, a9, nI_eq0S, hu, not_true_eq_false, if_true, if_false]
        refine X12_bu_1 P n s J2 R (d + 58) Q I2 hS.1 hw9 h2.1 a10 hm2 (fun hex => q4 I2 J2 h2 g1 g2 hwh hu hex) (fun hst => ?_) 12 0 rfl (fun i hi => absurd hi (Nat.not_lt_zero i))
        simp (disch := omega) only [g_X12_buy_60, g_X12_buy_61, g_X12_buy_64, g_X12_buy_65, lk_X12_buy, XI, Nat.reduceAdd, Nat.reduceEqDiff, not_false_eq_true, nI_T1, nI_T0, true_and, and_true, WC, WV, WU, s_X12_keep _ P n s I2 J2 R _ hL h2.2.2.1]
        have k62 : ∀ j, kpI I2 L.length 62 j = I2 62 j := fun j => kpI_ne I2 _ (by omega) (by decide)
        refine X12_bu_2 P n s J2 R (d + 58) Q (kpI I2 L.length) hS.1 hw9 hst a10 hm2 (fun I3 hI3 hM3 => ?_) 12 0 (kpI I2 L.length) rfl (fun _ _ _ => rfl) (by rw [show kpI I2 L.length 62 = I2 62 from funext k62]; exact h2.1)
        simp (disch := omega) only [g_X12_buy_96, g_X12_buy_97, g_X12_buy_100, g_X12_buy_103, g_X12_buy_104, g_X12_buy_105, g_X12_buy_106, g_X12_buy_109, g_X12_buy_112, g_X12_buy_113, g_X12_buy_114, g_X12_buy_115, g_X12_buy_118, g_X12_buy_121, g_X12_buy_122, g_X12_buy_123, g_X12_buy_124, g_X12_buy_127, g_X12_buy_128, lk_X12_buy, XI, Nat.reduceAdd, Nat.reduceEqDiff, not_false_eq_true, nI_T1, nI_T0, true_and, and_true, WC, WV, WU, nI_cl, rs_in_t, a5, lN_i]
        refine qE _ J2 (RI_keep hS h2 ?_ (fun q j a b => ?_)) (fR_t g1 (fR_t (kpI_R I2 _) (fR_u (fR_u (fR_u (fun q j a => hI3 q j (by omega)) (by decide)) (by decide)) (by decide)))) g2 hwh hu hst
        · rw [buR_P]
          refine mDt_P (buR_ok hS.1 12 (Nat.le_refl 12) hst) (fun j hj => ?_) ?_ hM3
          · rw [rs_u2_ne _ _ (by omega), rs_u2_ne _ _ (by omega), rs_u2_ne _ _ (by omega)]
          · show rs_u2 (rs_u2 (rs_u2 I3 62 445 (-1)) 62 446 (nI 0)) 62 447 (nI 0) 62 445 = -1
            rw [rs_u2_ne _ _ (by omega), rs_u2_ne _ _ (by omega), rs_u2_eq]
        · rw [rs_u2_ne _ _ (fun z => a z.1), rs_u2_ne _ _ (fun z => a z.1), rs_u2_ne _ _ (fun z => a z.1)]
          exact hI3 q j a
      · simp (disch := omega) only [g_X12_buy_21, g_X12_buy_22, g_X12_buy_25, g_X12_buy_28, g_X12_buy_30, lk_X12_buy, XI, Nat.reduceAdd, Nat.reduceEqDiff, not_false_eq_true, nI_T1, nI_T0, true_and, and_true, WC, WV, WU, rs_b_0, rs_b_ok2, true_or, or_true, Classical.not_not, not_true_eq_false, if_true, if_false, reduceCtorEq, a9, nI_eq0S, hu, not_false_eq_true, if_true, if_false]
        exact q3 I2 J2 h2 g1 g2 (Or.inr ⟨hwh, hu⟩)
theorem b_buy (hS : SOk D Ds L tp) : BC yX11_buy yX12_buy [] D Ds L tp rea := by
  obtain ⟨w, hw⟩ := chs_ex hS.1
  by_cases hwh : whyD D = 0
  · by_cases hu : bK (unB D) 12 = 0
    · by_cases hf : ∀ i, i < 12 → stA D w i ≤ 999999
      · have hok : (buI D w 12).ok := by
          rw [buR_P]
          exact Dt.setP_ok (buR_ok hS.1 12 (Nat.le_refl 12) hf) (fun r q e => by cases e)
        refine ⟨buI D w 12, Ds, nxL L D, tp, reaD D rea, .int (nI (sK (aP D w) 12)), nxL_ok hS hok, fun d P n s I J R Q h hQ => ?_, fun d P n s I J R Q _ h hQ => ?_, Or.inl ⟨_, rfl⟩⟩
        · refine c_buy hS hw d P n s I J R Q h (fun P' n' s' I' J' R' _ _ _ _ _ hc => ?_) (fun P' n' s' I' J' R' _ _ _ _ _ _ _ hc => ?_) (fun P' n' s' I' J' R' h1 h2 h3 h4 h5 _ _ _ => hQ P' n' s' I' J' R' h1 h2 h3 h4 h5)
          · rcases hc with q | ⟨_, q⟩
            · exact absurd hwh q
            · exact absurd hu q
          · obtain ⟨i, hi, hc⟩ := hc
            have := hf i hi
            omega
        · refine r_buy hS hw d P n s I J R Q h (fun I' J' _ _ _ hc => ?_) (fun I' J' _ _ _ _ _ hc => ?_) (fun I' J' h1 h2 h3 _ _ _ => hQ I' J' h1 h2 h3)
          · rcases hc with q | ⟨_, q⟩
            · exact absurd hwh q
            · exact absurd hu q
          · obtain ⟨i, hi, hc⟩ := hc
            have := hf i hi
            omega
      · refine ⟨D, Ds, L, tp, reaD D rea, .int (-4), hS, fun d P n s I J R Q h hQ => ?_, fun d P n s I J R Q _ h hQ => ?_, Or.inl ⟨_, rfl⟩⟩
        · refine c_buy hS hw d P n s I J R Q h (fun P' n' s' I' J' R' _ _ _ _ _ hc => ?_) (fun P' n' s' I' J' R' h1 h2 h3 h4 h5 _ _ _ => hQ P' n' s' I' J' R' h1 h2 h3 h4 h5) (fun P' n' s' I' J' R' _ _ _ _ _ _ _ hc => absurd hc hf)
          rcases hc with q | ⟨_, q⟩
          · exact absurd hwh q
          · exact absurd hu q
        · refine r_buy hS hw d P n s I J R Q h (fun I' J' _ _ _ hc => ?_) (fun I' J' h1 h2 h3 _ _ _ => hQ I' J' h1 h2 h3) (fun I' J' _ _ _ _ _ hc => absurd hc hf)
          rcases hc with q | ⟨_, q⟩
          · exact absurd hwh q
          · exact absurd hu q
    · refine ⟨D, Ds, L, tp, reaD D rea, .int (-3), hS, fun d P n s I J R Q h hQ => ?_, fun d P n s I J R Q _ h hQ => ?_, Or.inl ⟨_, rfl⟩⟩
      · exact c_buy hS hw d P n s I J R Q h (fun P' n' s' I' J' R' h1 h2 h3 h4 h5 _ => hQ P' n' s' I' J' R' h1 h2 h3 h4 h5) (fun P' n' s' I' J' R' _ _ _ _ _ _ hc _ => absurd hc hu) (fun P' n' s' I' J' R' _ _ _ _ _ _ hc _ => absurd hc hu)
      · exact r_buy hS hw d P n s I J R Q h (fun I' J' h1 h2 h3 _ => hQ I' J' h1 h2 h3) (fun I' J' _ _ _ _ hc _ => absurd hc hu) (fun I' J' _ _ _ _ hc _ => absurd hc hu)
  · refine ⟨D, Ds, L, tp, reaD D rea, .int (-3), hS, fun d P n s I J R Q h hQ => ?_, fun d P n s I J R Q _ h hQ => ?_, Or.inl ⟨_, rfl⟩⟩
    · exact c_buy hS hw d P n s I J R Q h (fun P' n' s' I' J' R' h1 h2 h3 h4 h5 _ => hQ P' n' s' I' J' R' h1 h2 h3 h4 h5) (fun P' n' s' I' J' R' _ _ _ _ _ hc _ _ => absurd hc hwh) (fun P' n' s' I' J' R' _ _ _ _ _ hc _ _ => absurd hc hwh)
    · exact r_buy hS hw d P n s I J R Q h (fun I' J' h1 h2 h3 _ => hQ I' J' h1 h2 h3) (fun I' J' _ _ _ hc _ _ => absurd hc hwh) (fun I' J' _ _ _ hc _ _ => absurd hc hwh)
end
