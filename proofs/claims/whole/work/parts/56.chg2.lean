/-! packs taken away, grams of a unit -/
section
variable {D : Dt} {Ds : Option Dt} {L : List Dt} {tp : List Nat} {rea : Int32}
theorem b_removePack (hS : SOk D Ds L tp) (x0 : Int32) : BC yX11_removePack yX12_removePack [.int x0] D Ds L tp rea := by
  by_cases c0 : nI 0 ≤ x0 ∧ x0 ≤ nI 11
  · obtain ⟨i, -, hi0, rfl⟩ := (nI_within (by decide) (by decide)).mp c0
    have hi : i < 12 := by omega
    have hg := hS.1.2.1 i hi
    have hl := hg.2.2.2.2.2.1
    by_cases c3 : (D.ig i).pk.length = 0
    · refine BC_same hS (.int (-3)) (Or.inl ⟨_, rfl⟩) (fun d P n s I J R Q h hQ => ?_) (fun d P n s I J R Q h hQ => ?_)
      · obtain ⟨q, hR, hq⟩ := h.2.1
        obtain ⟨y, hy, cy⟩ := g_ingredientAt hq hi
        rw [em_X11_removePack]
        simp (disch := omega) only [g_X11_removePack_0, g_X11_removePack_1, g_X11_removePack_4, g_X11_removePack_5, g_X11_removePack_8, g_X11_removePack_9, g_X11_removePack_10, g_X11_removePack_13, g_X11_removePack_14, g_X11_removePack_15, g_X11_removePack_16, g_X11_removePack_19, g_X11_removePack_22, g_X11_removePack_24, lk_X11_removePack, XI, Nat.reduceAdd, Nat.reduceEqDiff, not_false_eq_true, nI_T1, nI_T0, true_and, and_true, WC, WV, WU, rs_b_0, rs_b_ok2, true_or, or_true, Classical.not_not, not_true_eq_false, if_true, if_false, reduceCtorEq, hR, va_rf, k_St P n s I J R hq, cy, k_Ig P n s I J R hy, g_packCount n s I J R _ _ hy, c3, nI_00]
        exact hQ
      · obtain ⟨m1, m2, m3, m4, m5, m6, m7⟩ := h.1.2.1 i hi
        rw [em_X12_removePack]
        simp (disch := omega) only [g_X12_removePack_0, g_X12_removePack_1, g_X12_removePack_4, g_X12_removePack_7, g_X12_removePack_8, g_X12_removePack_9, g_X12_removePack_10, g_X12_removePack_13, g_X12_removePack_14, g_X12_removePack_15, g_X12_removePack_18, g_X12_removePack_19, g_X12_removePack_21, g_X12_removePack_22, g_X12_removePack_23, g_X12_removePack_26, g_X12_removePack_28, lk_X12_removePack, XI, Nat.reduceAdd, Nat.reduceEqDiff, not_false_eq_true, nI_T1, nI_T0, true_and, and_true, WC, WV, WU, rs_b_0, rs_b_ok2, true_or, or_true, Classical.not_not, not_true_eq_false, if_true, if_false, reduceCtorEq, s_X12_isIngredient, c0, s_X12_at, nI_addS, nI_cl, rs_in_t, m6, c3, nI_00]
        exact hQ
    · have hg' : ((D.ig i).setPk ((D.ig i).pk.take ((D.ig i).pk.length - 1))).ok := by
        refine Ig.setPk_ok hg (by rw [List.length_take]; omega) ?_
        intro k p hk
        rw [List.getElem?_take] at hk
        split at hk
        · exact hg.2.2.2.2.2.2 k p hk
        · cases hk
      have hD' := Dt.setI_ok hS.1 (i := i) hg'
      refine ⟨D.setI i ((D.ig i).setPk ((D.ig i).pk.take ((D.ig i).pk.length - 1))), Ds, nxL L D, tp, rea, .int (nI ((D.ig i).pk.length - 1)), nxL_ok hS hD', fun d P n s I J R Q h hQ => ?_, fun d P n s I J R Q g8 h hQ => ?_, Or.inl ⟨_, rfl⟩⟩
      · obtain ⟨q, hR, hq⟩ := h.2.1
        have h84 := h.1
        obtain ⟨y, hy, cy⟩ := g_ingredientAt hq hi
        rw [em_X11_removePack]
        simp (disch := omega) only [g_X11_removePack_0, g_X11_removePack_1, g_X11_removePack_4, g_X11_removePack_5, g_X11_removePack_8, g_X11_removePack_9, g_X11_removePack_10, g_X11_removePack_13, g_X11_removePack_14, g_X11_removePack_15, g_X11_removePack_16, g_X11_removePack_19, g_X11_removePack_22, g_X11_removePack_24, g_X11_removePack_25, g_X11_removePack_26, lk_X11_removePack, XI, Nat.reduceAdd, Nat.reduceEqDiff, not_false_eq_true, nI_T1, nI_T0, true_and, and_true, WC, WV, WU, rs_b_0, rs_b_ok2, true_or, or_true, Classical.not_not, not_true_eq_false, if_true, if_false, reduceCtorEq, hR, va_rf, k_St P n s I J R hq, cy, k_Ig P n s I J R hy, g_packCount n s I J R _ _ hy, nI_eq0S, c3]
        refine s_X1_copy n s I J R (d + 57) _ h84 hy hg ?_
        intro P1 V Ua Uc o1 p1
        have kz : rs_isK ((sk_w P1 (n + 3) (s + 14) I J R).1 n) 0 ↔ True := by rw [sk_cP (n + 3) (s + 14) I J R o1.1]; exact rs_isK_s _ _ _
        obtain ⟨x1, x2, x3, x4, v0, v1, v2, v3, v4, v5, v6, v7, x5⟩ := o1
        simp (disch := omega) only [g_X11_removePack_29, g_X11_removePack_30, g_X11_removePack_31, lk_X11_removePack, XI, Nat.reduceAdd, Nat.reduceEqDiff, not_false_eq_true, nI_T1, nI_T0, true_and, and_true, WC, WV, WU, kz]
        rw [em_X1_dropLastPack]
        simp (disch := omega) only [K_X1_dropLastPack, lk_X1_dropLastPack, XI, Nat.reduceAdd, Nat.reduceEqDiff, not_false_eq_true, nI_T1, nI_T0, true_and, and_true, WC, WV, WU, sk_pool x1.2.1, sk_up_p x1.2.1, x1.2.2, v5, nI_le0S, c3, if_false, nI_subS]
        have o2 : oIg (va_up P1 n (some (0, 8, va_up V 5 (.int (nI ((D.ig i).pk.length - 1)))))) (n + 3) n (n + 1) (n + 2) (va_up V 5 (.int (nI ((D.ig i).pk.length - 1)))) Ua Uc ((D.ig i).setPk ((D.ig i).pk.take ((D.ig i).pk.length - 1))) := by
          refine ⟨⟨x1.1, x1.2.1, vu_eq _ _ _⟩, cP_k x1.2.2 _ (show ¬ 12 = 0 by decide) x2, cP_k x1.2.2 _ (show ¬ 12 = 0 by decide) x3, x4, v0, v1, v2, v3, v4, ?_, v6, v7, ?_⟩
          · rw [vu_eq]
            show _ = Value.int (nI ((D.ig i).pk.take ((D.ig i).pk.length - 1)).length)
            rw [List.length_take, show min ((D.ig i).pk.length - 1) (D.ig i).pk.length = (D.ig i).pk.length - 1 by omega]
          · intro k p hk
            have hk : ((D.ig i).pk.take ((D.ig i).pk.length - 1))[k]? = some p := hk
            rw [List.getElem?_take] at hk
            split at hk
            · exact x5 k p hk
            · cases hk
        simp (disch := omega) only [g_X11_removePack_34, g_X11_removePack_35, g_X11_removePack_36, g_X11_removePack_37, lk_X11_removePack, XI, Nat.reduceAdd, Nat.reduceEqDiff, not_false_eq_true, nI_T1, nI_T0, true_and, and_true, WC, WV, WU]
        have hP2 : ∀ j, j < n → va_up P1 n (some (0, 8, va_up V 5 (.int (nI ((D.ig i).pk.length - 1))))) j = P j := fun j hj => by rw [vu_ne _ _ (by omega)]; exact p1 j hj
        refine s_replaceIngredient (n + 3) _ I J R (d + 56) _ hS h hP2 (by omega) hi (cIg_o.mpr ⟨_, _, _, _, _, o2⟩) ?_
        intro P' I' R' h' f' hP'
        have hy' := cIg_m (b' := n + 3) hP' (Nat.le_refl _) (cIg_o.mpr ⟨_, _, _, _, _, o2⟩)
        have e : ((D.ig i).setPk ((D.ig i).pk.take ((D.ig i).pk.length - 1))).pk.length = (D.ig i).pk.length - 1 := by
          show ((D.ig i).pk.take ((D.ig i).pk.length - 1)).length = _
          rw [List.length_take]
          omega
        simp (disch := omega) only [g_X11_removePack_40, g_X11_removePack_41, g_X11_removePack_44, lk_X11_removePack, XI, Nat.reduceAdd, Nat.reduceEqDiff, not_false_eq_true, nI_T1, nI_T0, true_and, and_true, WC, WV, WU, k_Ig _ _ _ _ _ _ hy', g_packCount _ _ _ _ _ _ _ hy', e]
        exact hQ P' _ _ I' J R' h' f' (fC_r J) (by omega) (by omega)
      · obtain ⟨m1, m2, m3, m4, m5, m6, m7⟩ := h.1.2.1 i hi
        have hL := hS.2.2.1
        have k62 : ∀ j, kpI I L.length 62 j = I 62 j := fun j => kpI_ne I _ (by omega) (by decide)
        rw [em_X12_removePack]
        simp (disch := omega) only [g_X12_removePack_0, g_X12_removePack_1, g_X12_removePack_4, g_X12_removePack_7, g_X12_removePack_8, g_X12_removePack_9, g_X12_removePack_10, g_X12_removePack_13, g_X12_removePack_14, g_X12_removePack_15, g_X12_removePack_18, g_X12_removePack_19, g_X12_removePack_21, g_X12_removePack_22, g_X12_removePack_23, g_X12_removePack_26, g_X12_removePack_28, g_X12_removePack_29, g_X12_removePack_30, g_X12_removePack_33, g_X12_removePack_34, g_X12_removePack_37, g_X12_removePack_38, g_X12_removePack_40, g_X12_removePack_41, g_X12_removePack_42, g_X12_removePack_43, g_X12_removePack_44, g_X12_removePack_45, g_X12_removePack_46, g_X12_removePack_47, g_X12_removePack_50, g_X12_removePack_51, g_X12_removePack_53, g_X12_removePack_54, g_X12_removePack_55, lk_X12_removePack, XI, Nat.reduceAdd, Nat.reduceEqDiff, not_false_eq_true, nI_T1, nI_T0, true_and, and_true, WC, WV, WU, rs_b_0, rs_b_ok2, true_or, or_true, Classical.not_not, not_true_eq_false, if_true, if_false, reduceCtorEq, s_X12_isIngredient, c0, s_X12_keep _ P n s I J R _ hL h.2.2.1, s_X12_at, nI_addS, nI_cl, rs_in_t, k62, m6, nI_eq0S, c3, nI_subS, rs_u2_eq]
        have e : ∀ j, ¬ j = 240 + 14 * i + 7 → rs_u2 (kpI I L.length) 62 (240 + 14 * i + 7) (nI ((D.ig i).pk.length - 1)) 62 j = I 62 j := fun j h1 => by rw [rs_u2_ne _ _ (by omega)]; exact k62 j
        refine hQ _ J (RI_keep hS h (mDt_I hS.1 hi (fun j hj => e j (by omega)) ⟨?_, ?_, ?_, ?_, ?_, ?_, ?_⟩ h.1) (fun q j h1 h2 => by rw [rs_u2_ne _ _ (by omega)])) (fR_u (kpI_R I _) (by decide)) (fR_r J)
        · exact mFr_c (fun j h1 h2 => e j (by omega)) m1
        · exact mFr_c (fun j h1 h2 => e j (by omega)) m2
        · rw [e _ (by omega)]; exact m3
        · rw [e _ (by omega)]; exact m4
        · rw [e _ (by omega)]; exact m5
        · rw [rs_u2_eq]
          show _ = nI ((D.ig i).pk.take ((D.ig i).pk.length - 1)).length
          rw [List.length_take, show min ((D.ig i).pk.length - 1) (D.ig i).pk.length = (D.ig i).pk.length - 1 by omega]
        · intro k p hk
          have hk : ((D.ig i).pk.take ((D.ig i).pk.length - 1))[k]? = some p := hk
          rw [List.getElem?_take] at hk
          split at hk
          · have hk3 := (List.getElem?_eq_some_iff.mp hk).1
            rw [e _ (by omega), e _ (by omega)]
            exact m7 k p hk
          · cases hk
  · refine BC_same hS (.int (-1)) (Or.inl ⟨_, rfl⟩) (fun d P n s I J R Q h hQ => ?_) (fun d P n s I J R Q h hQ => ?_)
    · obtain ⟨q, hR, hq⟩ := h.2.1
      rw [em_X11_removePack]
      simp (disch := omega) only [g_X11_removePack_0, g_X11_removePack_1, g_X11_removePack_4, g_X11_removePack_5, g_X11_removePack_8, g_X11_removePack_9, g_X11_removePack_10, g_X11_removePack_13, g_X11_removePack_14, lk_X11_removePack, XI, Nat.reduceAdd, Nat.reduceEqDiff, not_false_eq_true, nI_T1, nI_T0, true_and, and_true, WC, WV, WU, rs_b_0, rs_b_ok2, true_or, or_true, Classical.not_not, not_true_eq_false, if_true, if_false, reduceCtorEq, s_X11_isIngredient, s_X11_isRecipe, s_X11_isWithin, s_X11_isPart, hR, va_rf, k_St P n s I J R hq, g_ingredientAt_o n s _ _ R _ _ hq c0]
      exact hQ
    · rw [em_X12_removePack]
      simp (disch := omega) only [g_X12_removePack_0, g_X12_removePack_1, g_X12_removePack_4, g_X12_removePack_7, g_X12_removePack_8, lk_X12_removePack, XI, Nat.reduceAdd, Nat.reduceEqDiff, not_false_eq_true, nI_T1, nI_T0, true_and, and_true, WC, WV, WU, rs_b_0, rs_b_ok2, true_or, or_true, Classical.not_not, not_true_eq_false, if_true, if_false, reduceCtorEq, s_X12_isIngredient, s_X12_isNumber, s_X12_in, c0]
      exact hQ
/-- an int between -1 and a natural -/
theorem nI_from {x : Int32} {b : Nat} (hb : b < 2147483648) (h : -1 ≤ x ∧ x ≤ nI b) : x = -1 ∨ ∃ n, n ≤ b ∧ x = nI n := by
  by_cases h0 : x < 0
  · refine Or.inl ?_
    have h1 : x.toInt < 0 := Int32.lt_iff_toInt_lt.mp h0
    have h2 : (-1 : Int32).toInt ≤ x.toInt := Int32.le_iff_toInt_le.mp h.1
    have h3 : (-1 : Int32).toInt = -1 := by decide
    apply Int32.toInt_inj.mp
    omega
  · obtain ⟨n, hn, rfl⟩ := nI_of h0
    exact Or.inr ⟨n, (nI_leS hn hb).mp h.2, rfl⟩
theorem fr_small {u v : Nat} (hu : u ≤ 9999) (hv1 : 1 ≤ v) (hv : v ≤ 9999) : ∃ q, fr u v = some q ∧ q = (u / Nat.gcd u v, v / Nat.gcd u v) ∧ isF q := by
  have h1 : u / Nat.gcd u v ≤ u := Nat.div_le_self _ _
  have h2 : v / Nat.gcd u v ≤ v := Nat.div_le_self _ _
  have e : fr u v = some (u / Nat.gcd u v, v / Nat.gcd u v) := by unfold fr; rw [if_pos (by omega)]
  exact ⟨_, e, rfl, fr_isF hv1 e⟩
/-- the grams that a call gives -/
def grC (x : Int32) (v : Nat) : Option (Nat × Nat) := if x < 0 then none else fr x.toNatClampNeg v
theorem c_density (hS : SOk D Ds L tp) {i : Nat} (hi : i < 12) {x1 : Int32} {b : Nat} (c1 : -1 ≤ x1 ∧ x1 ≤ nI 9999) (c2 : nI 1 ≤ nI b ∧ nI b ≤ nI 9999) (o : Option (Nat × Nat)) (ho : o = grC x1 b) (hoo : okO o) (h12 : 1 ≤ b ∧ b ≤ 9999) : CC yX11_density [.int (nI i), .int x1, .int (nI b)] D Ds L tp rea (D.setI i ((D.ig i).setDe o)) Ds (nxL L D) tp rea (.int (rs_b (¬ (D.ig i).gr 1 = none))) := by
  intro d P n s I J R Q h hQ
  obtain ⟨q, hR, hq⟩ := h.2.1
  have h84 := h.1
  have hg := hS.1.2.1 i hi
  obtain ⟨y, hy, cy⟩ := g_ingredientAt hq hi
  have hgo := Ig.gr_ok hg 1
  rw [em_X11_density]
  simp (disch := omega) only [g_X11_density_0, g_X11_density_1, g_X11_density_2, g_X11_density_3, g_X11_density_4, g_X11_density_5, lk_X11_density, XI, Nat.reduceAdd, Nat.reduceEqDiff, not_false_eq_true, nI_T1, nI_T0, true_and, and_true, WC, WV, WU]
  rw [em_X11_changeGrams]
  simp (disch := omega) only [g_X11_changeGrams_0, g_X11_changeGrams_1, g_X11_changeGrams_4, g_X11_changeGrams_5, g_X11_changeGrams_8, g_X11_changeGrams_10, g_X11_changeGrams_12, g_X11_changeGrams_15, g_X11_changeGrams_16, g_X11_changeGrams_17, g_X11_changeGrams_18, g_X11_changeGrams_19, g_X11_changeGrams_22, g_X11_changeGrams_25, g_X11_changeGrams_28, g_X11_changeGrams_30, g_X11_changeGrams_31, g_X11_changeGrams_34, g_X11_changeGrams_37, g_X11_changeGrams_40, g_X11_changeGrams_42, g_X11_changeGrams_43, g_X11_changeGrams_44, lk_X11_changeGrams, XI, Nat.reduceAdd, Nat.reduceEqDiff, not_false_eq_true, nI_T1, nI_T0, true_and, and_true, WC, WV, WU, rs_b_0, rs_b_ok2, true_or, or_true, Classical.not_not, not_true_eq_false, if_true, if_false, reduceCtorEq, hR, va_rf, k_St P n s I J R hq, cy, s_X11_isWithin, c1, c2]
  have go : ∀ (z6 z7 : Option Value), rs_X (d + 58 + 1) yX11_changeGrams 61 [some (.ref 1), some (.int (nI i)), some (.int (nI 1)), some (.int x1), some (.int (nI b)), some (.ref y), none, z6, z7] [.long (pkO o)] (sk_w P n s I J R) (fun w' v => rs_X (d + 60) yX11_density 8 [some (.ref 1), some (.int (nI i)), some (.int x1), some (.int (nI b))] (rs_push v []) w' Q) := by
    intro z6 z7
    simp (disch := omega) only [g_X11_changeGrams_61, g_X11_changeGrams_63, g_X11_changeGrams_65, lk_X11_changeGrams, XI, Nat.reduceAdd, Nat.reduceEqDiff, not_false_eq_true, nI_T1, nI_T0, true_and, and_true, WC, WV, WU, k_Ig P n s I J R hy]
    refine s_X1_copy n s I J R (d + 56) _ h84 hy hg ?_
    intro P1 V Ua Uc o1 p1
    have o2 := oIg_set (g' := (D.ig i).setDe o) o1 0 (.long (pkO o)) (by decide) (by decide) (by decide) rfl rfl o1.2.2.2.2.2.1 o1.2.2.2.2.2.2.1 o1.2.2.2.2.2.2.2.1 o1.2.2.2.2.2.2.2.2.1
    simp (disch := omega) only [g_X11_changeGrams_68, g_X11_changeGrams_70, g_X11_changeGrams_71, g_X11_changeGrams_72, g_X11_changeGrams_75, g_X11_changeGrams_77, g_X11_changeGrams_79, g_X11_changeGrams_82, g_X11_changeGrams_85, g_X11_changeGrams_87, g_X11_changeGrams_89, g_X11_changeGrams_92, g_X11_changeGrams_93, g_X11_changeGrams_94, g_X11_changeGrams_96, lk_X11_changeGrams, XI, Nat.reduceAdd, Nat.reduceEqDiff, not_false_eq_true, nI_T1, nI_T0, true_and, and_true, WC, WV, WU, sk_pool o1.1.2.1, sk_up_p o1.1.2.1, o1.1.2.2, vu_eq, nI_eqS, Nat.reduceEqDiff, not_true_eq_false, not_false_eq_true, if_true, if_false]
    have hP2 : ∀ j, j < n → va_up P1 n (some (0, 8, va_up V 0 (.long (pkO o)))) j = P j := fun j hj => by rw [vu_ne _ _ (by omega)]; exact p1 j hj
    refine s_replaceIngredient (n + 3) _ I J R (d + 55) _ hS h hP2 (by omega) hi (cIg_o.mpr ⟨_, _, _, _, _, o2⟩) ?_
    intro P' I' R' h' f' hP'
    have hy' := cIg_m (b' := n + 3) (fun j hj => (by rw [hP' j (by omega)]; exact hP2 j hj : P' j = P j)) (by omega) hy
    simp (disch := omega) only [g_X11_changeGrams_99, g_X11_changeGrams_101, g_X11_changeGrams_102, g_X11_changeGrams_105, g_X11_changeGrams_108, g_X11_changeGrams_109, g_X11_changeGrams_112, g_X11_changeGrams_113, g_X11_changeGrams_116, g_X11_changeGrams_117, lk_X11_changeGrams, XI, Nat.reduceAdd, Nat.reduceEqDiff, not_false_eq_true, nI_T1, nI_T0, true_and, and_true, WC, WV, WU, k_Ig _ _ _ _ _ _ hy', g_gramsOf _ _ _ _ _ _ _ hy' (show 1 ≤ 2 by decide), lg_cmp_eq]
    have hQ' := hQ P' _ _ I' J R' h' f' (fC_r J) (show n + 3 + 4 ≤ n + 100 by omega) (show s + 14 + 31 ≤ s + 1000 by omega)
    cases hgr : (D.ig i).gr 1 with
    | none =>
      rw [hgr, rs_b_f (fun z => z rfl)] at hQ'
      simp (disch := omega) only [show (pkO none = -1) ↔ True from ⟨fun _ => trivial, fun _ => rfl⟩, not_true_eq_false, if_false, K_X11_density, lk_X11_density, XI, Nat.reduceAdd, Nat.reduceEqDiff, not_false_eq_true, nI_T1, nI_T0, true_and, and_true]
      exact hQ'
    | some p =>
      rw [hgr, rs_b_t (fun z => by cases z)] at hQ'
      rw [hgr] at hgo
      have hne : ¬ pkO (some p) = -1 := fun z => pkF_nn (hgo p rfl) (by rw [show pkF p = -1 from z]; decide)
      simp (disch := omega) only [hne, not_false_eq_true, if_true, K_X11_density, lk_X11_density, XI, Nat.reduceAdd, Nat.reduceEqDiff, not_false_eq_true, nI_T1, nI_T0, true_and, and_true]
      exact hQ'
  rcases nI_from (by decide) c1 with e | ⟨a, ha, e⟩
  · subst e
    have e2 : o = none := by rw [ho]; rfl
    rw [e2] at go
    simp (disch := omega) only [g_X11_changeGrams_47, g_X11_changeGrams_50, g_X11_changeGrams_53, g_X11_changeGrams_54, g_X11_changeGrams_55, g_X11_changeGrams_57, g_X11_changeGrams_58, lk_X11_changeGrams, XI, Nat.reduceAdd, Nat.reduceEqDiff, not_false_eq_true, nI_T1, nI_T0, true_and, and_true, WC, WV, WU, show ((0 : Int32) ≤ -1) ↔ False from ⟨fun z => absurd z (by decide), fun z => z.elim⟩, if_false]
    exact go _ _
  · subst e
    have e2 : o = fr a b := by
      rw [ho]
      unfold grC
      rw [if_neg (by rw [nI_lt0S (by omega)]; exact id), nI_cl (by omega)]
    rw [e2] at go
    simp (disch := omega) only [g_X11_changeGrams_47, g_X11_changeGrams_50, g_X11_changeGrams_53, g_X11_changeGrams_54, g_X11_changeGrams_55, g_X11_changeGrams_57, g_X11_changeGrams_58, lk_X11_changeGrams, XI, Nat.reduceAdd, Nat.reduceEqDiff, not_false_eq_true, nI_T1, nI_T0, true_and, and_true, WC, WV, WU, nI_ge0S, if_true, nI_long (show a ≤ 1000000000 by omega), nI_long (show b ≤ 1000000000 by omega), s_X0_of _ _ _ (show a < 2 ^ 63 by omega) h12.1 (show b ≤ 1000000000000000000 by omega)]
    exact go _ _
theorem c_weight (hS : SOk D Ds L tp) {i : Nat} (hi : i < 12) {x1 : Int32} {b : Nat} (c1 : -1 ≤ x1 ∧ x1 ≤ nI 9999) (c2 : nI 1 ≤ nI b ∧ nI b ≤ nI 9999) (o : Option (Nat × Nat)) (ho : o = grC x1 b) (hoo : okO o) (h12 : 1 ≤ b ∧ b ≤ 9999) : CC yX11_weight [.int (nI i), .int x1, .int (nI b)] D Ds L tp rea (D.setI i ((D.ig i).setWe o)) Ds (nxL L D) tp rea (.int (rs_b (¬ (D.ig i).gr 2 = none))) := by
  intro d P n s I J R Q h hQ
  obtain ⟨q, hR, hq⟩ := h.2.1
  have h84 := h.1
  have hg := hS.1.2.1 i hi
  obtain ⟨y, hy, cy⟩ := g_ingredientAt hq hi
  have hgo := Ig.gr_ok hg 2
  rw [em_X11_weight]
  simp (disch := omega) only [g_X11_weight_0, g_X11_weight_1, g_X11_weight_2, g_X11_weight_3, g_X11_weight_4, g_X11_weight_5, lk_X11_weight, XI, Nat.reduceAdd, Nat.reduceEqDiff, not_false_eq_true, nI_T1, nI_T0, true_and, and_true, WC, WV, WU]
  rw [em_X11_changeGrams]
  simp (disch := omega) only [g_X11_changeGrams_0, g_X11_changeGrams_1, g_X11_changeGrams_4, g_X11_changeGrams_5, g_X11_changeGrams_8, g_X11_changeGrams_10, g_X11_changeGrams_12, g_X11_changeGrams_15, g_X11_changeGrams_16, g_X11_changeGrams_17, g_X11_changeGrams_18, g_X11_changeGrams_19, g_X11_changeGrams_22, g_X11_changeGrams_25, g_X11_changeGrams_28, g_X11_changeGrams_30, g_X11_changeGrams_31, g_X11_changeGrams_34, g_X11_changeGrams_37, g_X11_changeGrams_40, g_X11_changeGrams_42, g_X11_changeGrams_43, g_X11_changeGrams_44, lk_X11_changeGrams, XI, Nat.reduceAdd, Nat.reduceEqDiff, not_false_eq_true, nI_T1, nI_T0, true_and, and_true, WC, WV, WU, rs_b_0, rs_b_ok2, true_or, or_true, Classical.not_not, not_true_eq_false, if_true, if_false, reduceCtorEq, hR, va_rf, k_St P n s I J R hq, cy, s_X11_isWithin, c1, c2]
  have go : ∀ (z6 z7 : Option Value), rs_X (d + 58 + 1) yX11_changeGrams 61 [some (.ref 1), some (.int (nI i)), some (.int (nI 2)), some (.int x1), some (.int (nI b)), some (.ref y), none, z6, z7] [.long (pkO o)] (sk_w P n s I J R) (fun w' v => rs_X (d + 60) yX11_weight 8 [some (.ref 1), some (.int (nI i)), some (.int x1), some (.int (nI b))] (rs_push v []) w' Q) := by
    intro z6 z7
    simp (disch := omega) only [g_X11_changeGrams_61, g_X11_changeGrams_63, g_X11_changeGrams_65, lk_X11_changeGrams, XI, Nat.reduceAdd, Nat.reduceEqDiff, not_false_eq_true, nI_T1, nI_T0, true_and, and_true, WC, WV, WU, k_Ig P n s I J R hy]
    refine s_X1_copy n s I J R (d + 56) _ h84 hy hg ?_
    intro P1 V Ua Uc o1 p1
    have o2 := oIg_set (g' := (D.ig i).setWe o) o1 1 (.long (pkO o)) (by decide) (by decide) (by decide) rfl o1.2.2.2.2.1 rfl o1.2.2.2.2.2.2.1 o1.2.2.2.2.2.2.2.1 o1.2.2.2.2.2.2.2.2.1
    simp (disch := omega) only [g_X11_changeGrams_68, g_X11_changeGrams_70, g_X11_changeGrams_71, g_X11_changeGrams_72, g_X11_changeGrams_75, g_X11_changeGrams_77, g_X11_changeGrams_79, g_X11_changeGrams_82, g_X11_changeGrams_85, g_X11_changeGrams_87, g_X11_changeGrams_89, g_X11_changeGrams_92, g_X11_changeGrams_93, g_X11_changeGrams_94, g_X11_changeGrams_96, lk_X11_changeGrams, XI, Nat.reduceAdd, Nat.reduceEqDiff, not_false_eq_true, nI_T1, nI_T0, true_and, and_true, WC, WV, WU, sk_pool o1.1.2.1, sk_up_p o1.1.2.1, o1.1.2.2, vu_eq, nI_eqS, Nat.reduceEqDiff, not_true_eq_false, not_false_eq_true, if_true, if_false]
    have hP2 : ∀ j, j < n → va_up P1 n (some (0, 8, va_up V 1 (.long (pkO o)))) j = P j := fun j hj => by rw [vu_ne _ _ (by omega)]; exact p1 j hj
    refine s_replaceIngredient (n + 3) _ I J R (d + 55) _ hS h hP2 (by omega) hi (cIg_o.mpr ⟨_, _, _, _, _, o2⟩) ?_
    intro P' I' R' h' f' hP'
    have hy' := cIg_m (b' := n + 3) (fun j hj => (by rw [hP' j (by omega)]; exact hP2 j hj : P' j = P j)) (by omega) hy
    simp (disch := omega) only [g_X11_changeGrams_99, g_X11_changeGrams_101, g_X11_changeGrams_102, g_X11_changeGrams_105, g_X11_changeGrams_108, g_X11_changeGrams_109, g_X11_changeGrams_112, g_X11_changeGrams_113, g_X11_changeGrams_116, g_X11_changeGrams_117, lk_X11_changeGrams, XI, Nat.reduceAdd, Nat.reduceEqDiff, not_false_eq_true, nI_T1, nI_T0, true_and, and_true, WC, WV, WU, k_Ig _ _ _ _ _ _ hy', g_gramsOf _ _ _ _ _ _ _ hy' (show 2 ≤ 2 by decide), lg_cmp_eq]
    have hQ' := hQ P' _ _ I' J R' h' f' (fC_r J) (show n + 3 + 4 ≤ n + 100 by omega) (show s + 14 + 31 ≤ s + 1000 by omega)
    cases hgr : (D.ig i).gr 2 with
    | none =>
      rw [hgr, rs_b_f (fun z => z rfl)] at hQ'
      simp (disch := omega) only [show (pkO none = -1) ↔ True from ⟨fun _ => trivial, fun _ => rfl⟩, not_true_eq_false, if_false, K_X11_weight, lk_X11_weight, XI, Nat.reduceAdd, Nat.reduceEqDiff, not_false_eq_true, nI_T1, nI_T0, true_and, and_true]
      exact hQ'
    | some p =>
      rw [hgr, rs_b_t (fun z => by cases z)] at hQ'
      rw [hgr] at hgo
      have hne : ¬ pkO (some p) = -1 := fun z => pkF_nn (hgo p rfl) (by rw [show pkF p = -1 from z]; decide)
      simp (disch := omega) only [hne, not_false_eq_true, if_true, K_X11_weight, lk_X11_weight, XI, Nat.reduceAdd, Nat.reduceEqDiff, not_false_eq_true, nI_T1, nI_T0, true_and, and_true]
      exact hQ'
  rcases nI_from (by decide) c1 with e | ⟨a, ha, e⟩
  · subst e
    have e2 : o = none := by rw [ho]; rfl
    rw [e2] at go
    simp (disch := omega) only [g_X11_changeGrams_47, g_X11_changeGrams_50, g_X11_changeGrams_53, g_X11_changeGrams_54, g_X11_changeGrams_55, g_X11_changeGrams_57, g_X11_changeGrams_58, lk_X11_changeGrams, XI, Nat.reduceAdd, Nat.reduceEqDiff, not_false_eq_true, nI_T1, nI_T0, true_and, and_true, WC, WV, WU, show ((0 : Int32) ≤ -1) ↔ False from ⟨fun z => absurd z (by decide), fun z => z.elim⟩, if_false]
    exact go _ _
  · subst e
    have e2 : o = fr a b := by
      rw [ho]
      unfold grC
      rw [if_neg (by rw [nI_lt0S (by omega)]; exact id), nI_cl (by omega)]
    rw [e2] at go
    simp (disch := omega) only [g_X11_changeGrams_47, g_X11_changeGrams_50, g_X11_changeGrams_53, g_X11_changeGrams_54, g_X11_changeGrams_55, g_X11_changeGrams_57, g_X11_changeGrams_58, lk_X11_changeGrams, XI, Nat.reduceAdd, Nat.reduceEqDiff, not_false_eq_true, nI_T1, nI_T0, true_and, and_true, WC, WV, WU, nI_ge0S, if_true, nI_long (show a ≤ 1000000000 by omega), nI_long (show b ≤ 1000000000 by omega), s_X0_of _ _ _ (show a < 2 ^ 63 by omega) h12.1 (show b ≤ 1000000000000000000 by omega)]
    exact go _ _
end
