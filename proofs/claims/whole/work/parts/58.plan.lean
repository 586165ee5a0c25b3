/-! a plan is made; a recipe is taken away -/
section
variable {P : Nat → Option rs_C} (n s : Nat) (I : Nat → Nat → Int32) (J : Nat → Nat → Int64) (R : Nat → Nat → Option Nat) (d : Nat) (Q : rs_H → Option Value → Prop)
theorem s_withPlan {q : Nat} {D : Dt} (h84 : 84 ≤ n) (hq : cSt P n q D) {x : Int32} {y : Int64} {o : Option (Nat × (Nat × Nat))} (hpl : ∀ V : Nat → Value, V 3 = .int x → V 4 = .long y → cPl V o) (hQ : ∀ P' V Ua Uc Ue, oSt P' (n + 4) n (n + 1) (n + 2) (n + 3) V Ua Uc Ue (D.setP o) → (∀ i, i < n → P' i = P i) → Q (sk_w P' (n + 4) (s + 31) I J R) (some (.ref n))) : rs_XM (d + 3) yX7_withPlan [.ref q, .int x, .long y] (sk_w P n s I J R) Q := by
  rw [em_X7_withPlan]
  simp (disch := omega) only [g_X7_withPlan_0, g_X7_withPlan_1, lk_X7_withPlan, XI, Nat.reduceAdd, Nat.reduceEqDiff, not_false_eq_true, nI_T1, nI_T0, true_and, and_true, WC, WV, WU, k_St P n s I J R hq]
  refine s_X7_copy n s I J R d _ h84 hq ?_
  intro P1 V Ua Uc Ue o1 p1
  obtain ⟨h1, h2, h3, h4, v0, v1, v2, h5, h6, h7, h8, h9, h10⟩ := o1
  simp (disch := omega) only [g_X7_withPlan_4, g_X7_withPlan_6, g_X7_withPlan_8, g_X7_withPlan_9, g_X7_withPlan_12, g_X7_withPlan_14, g_X7_withPlan_15, g_X7_withPlan_18, g_X7_withPlan_20, lk_X7_withPlan, XI, Nat.reduceAdd, Nat.reduceEqDiff, not_false_eq_true, nI_T1, nI_T0, true_and, and_true, WC, WV, WU, sk_pool h1.2.1, sk_up_p h1.2.1, h1.2.2, vu_eq, vu_vu]
  have hk : 17 ≤ ((6, 5, V) : rs_C).1 ∨ ((6, 5, V) : rs_C).1 = 15 ∨ ((6, 5, V) : rs_C).1 = 6 := Or.inr (Or.inr rfl)
  refine hQ _ (va_up (va_up V 3 (.int x)) 4 (.long y)) Ua Uc Ue ⟨⟨h1.1, h1.2.1, vu_eq _ _ _⟩, cP_k h1.2.2 _ (show ¬ 17 = 6 by decide) h2, cP_k h1.2.2 _ (show ¬ 15 = 6 by decide) h3, cP_k h1.2.2 _ (show ¬ 19 = 6 by decide) h4, v0, v1, v2, hpl _ rfl rfl, h6, ?_, ?_, h9, ?_⟩ ?_
  · intro r Z hr hz
    obtain ⟨y, hy, cy⟩ := h7 r Z hr hz
    exact ⟨y, hy, cRc_k h1.2.2 _ hk cy⟩
  · intro j hj
    obtain ⟨y, hy, cy⟩ := h8 j hj
    exact ⟨y, hy, cIg_k h1.2.2 _ hk cy⟩
  · intro k t hk2 ht
    obtain ⟨y, hy, cy⟩ := h10 k t hk2 ht
    exact ⟨y, hy, cSb_k h1.2.2 _ hk cy⟩
  · intro i hi
    rw [vu_ne _ _ (by omega)]
    exact p1 i hi
theorem X5_count_l {b x i r : Nat} {Z : Rc} (hZ : Z.ok) {U : Nat → Value} (hi : cP P b i (16, 6, U)) (un : ∀ k, k < 6 → Z.its[k]? = none → U k = .null) (us : ∀ k t, k < 6 → Z.its[k]? = some t → ∃ x, U k = .ref x ∧ cIt P b x t) : ∀ (m k : Nat) (z5 : Option Value), k + m = 6 → (rs_X d yX5_itemCount 13 [some (.ref x), some (.int (nI (min k Z.its.length))), some (.ref i), some (.int (nI 6)), some (.int (nI k)), z5] [] (sk_w P n s I J R) Q ↔ Q (sk_w P n s I J R) (some (.int (nI Z.its.length)))) := by
  intro m
  induction m with
  | zero =>
    intro k z5 hk
    have : k = 6 := by omega
    subst this
    have hl := hZ.2.1
    rw [g_X5_itemCount_13]
    simp (disch := omega) only [g_X5_itemCount_15, g_X5_itemCount_16, lk_X5_itemCount, g_X5_itemCount_39, g_X5_itemCount_40, lk_X5_itemCount, XI, Nat.reduceAdd, Nat.reduceEqDiff, not_false_eq_true, nI_T1, nI_T0, true_and, and_true, WC, WV, WU, nI_leS, Nat.le_refl, if_true]
    rw [show min 6 Z.its.length = Z.its.length by omega]
  | succ m ih =>
    intro k z5 hk
    have hl := hZ.2.1
    rw [g_X5_itemCount_13]
    cases hs : Z.its[k]? with
    | none =>
      have h1 : Z.its.length ≤ k := List.getElem?_eq_none_iff.mp hs
      have h2 := ih (k + 1) (some .null) (by omega)
      rw [show min (k + 1) Z.its.length = min k Z.its.length by omega] at h2
      simp (disch := omega) only [g_X5_itemCount_15, g_X5_itemCount_16, g_X5_itemCount_19, g_X5_itemCount_20, g_X5_itemCount_22, g_X5_itemCount_23, g_X5_itemCount_25, g_X5_itemCount_27, g_X5_itemCount_30, g_X5_itemCount_33, g_X5_itemCount_36, lk_X5_itemCount, XI, Nat.reduceAdd, Nat.reduceEqDiff, not_false_eq_true, nI_T1, nI_T0, true_and, and_true, WC, WV, WU, nI_leS, sk_cP n s I J R hi, nI_cl, rs_in_t, un k (by omega) hs, nI_addS]
      rw [if_neg (by omega)]
      exact h2
    | some t =>
      have h1 := (List.getElem?_eq_some_iff.mp hs).1
      obtain ⟨y, hy, cy⟩ := us k t (by omega) hs
      have h2 := ih (k + 1) (some (.ref y)) (by omega)
      rw [show min (k + 1) Z.its.length = min k Z.its.length + 1 by omega] at h2
      simp (disch := omega) only [g_X5_itemCount_15, g_X5_itemCount_16, g_X5_itemCount_19, g_X5_itemCount_20, g_X5_itemCount_22, g_X5_itemCount_23, g_X5_itemCount_25, g_X5_itemCount_27, g_X5_itemCount_30, g_X5_itemCount_33, g_X5_itemCount_36, lk_X5_itemCount, XI, Nat.reduceAdd, Nat.reduceEqDiff, not_false_eq_true, nI_T1, nI_T0, true_and, and_true, WC, WV, WU, nI_leS, sk_cP n s I J R hi, nI_cl, rs_in_t, hy, nI_addS]
      rw [if_neg (by omega)]
      exact h2
theorem s_itemCount {b x r : Nat} {Z : Rc} (hx : cRc P b x r Z) (hZ : Z.ok) : rs_XM d yX5_itemCount [.ref x] (sk_w P n s I J R) Q ↔ Q (sk_w P n s I J R) (some (.int (nI Z.its.length))) := by
  obtain ⟨V, i, U, h1, h2, v0, v1, v2, v3, v4, un, us⟩ := hx
  rw [em_X5_itemCount]
  simp (disch := omega) only [g_X5_itemCount_0, g_X5_itemCount_1, g_X5_itemCount_2, g_X5_itemCount_3, g_X5_itemCount_6, g_X5_itemCount_7, g_X5_itemCount_8, g_X5_itemCount_9, g_X5_itemCount_10, g_X5_itemCount_11, lk_X5_itemCount, XI, Nat.reduceAdd, Nat.reduceEqDiff, not_false_eq_true, nI_T1, nI_T0, true_and, and_true, WC, WV, WU, sk_cP n s I J R h1, sk_cP n s I J R h2, v1]
  have h := X5_count_l n s I J R d Q (r := r) hZ h2 un us (x := x) 6 0 none rfl
  rw [Nat.zero_min] at h
  exact h
end
section
variable {D : Dt} {Ds : Option Dt} {L : List Dt} {tp : List Nat} {rea : Int32}
theorem s_rowIsThere {I62 : Nat → Int32} (hM : mDt I62 D) {r : Nat} (hr : r < 8) : (I62 (30 * r) = nI 1) ↔ ¬ D.rc r = none := by
  have h := hM.1 r hr
  cases hz : D.rc r with
  | none =>
    rw [hz] at h
    rw [h.1]
    exact ⟨fun z => absurd z (by decide), fun z => absurd rfl z⟩
  | some Z =>
    rw [hz] at h
    exact ⟨fun _ z => (by cases z), fun _ => h.1⟩
theorem X12_remove_l (P : Nat → Option rs_C) (n s : Nat) (I : Nat → Nat → Int32) (J : Nat → Nat → Int64) (R : Nat → Nat → Option Nat) (d : Nat) (Q : rs_H → Option Value → Prop) {r : Nat} (hr : r < 8) (x2 : Int32) : ∀ (m k : Nat), k + m = 30 → rs_X d yX12_removeRecipe 62 [some (.ref 61), some (.int (nI r)), some (.int x2), some (.int (nI 30))] [] (sk_w P n s (cpU I 62 (30 * r) (30 * r + 30) fun _ => nI 0) J R) Q →
    rs_X d yX12_removeRecipe 38 [some (.ref 61), some (.int (nI r)), some (.int x2), some (.int (nI k))] [] (sk_w P n s (cpU I 62 (30 * r) (30 * r + k) fun _ => nI 0) J R) Q := by
  intro m
  induction m with
  | zero =>
    intro k hk h
    have : k = 30 := by omega
    subst this
    rw [g_X12_removeRecipe_38]
    simp (disch := omega) only [g_X12_removeRecipe_39, g_X12_removeRecipe_41, g_X12_removeRecipe_44, g_X12_removeRecipe_45, g_X12_removeRecipe_48, g_X12_removeRecipe_50, g_X12_removeRecipe_51, g_X12_removeRecipe_52, g_X12_removeRecipe_53, g_X12_removeRecipe_54, g_X12_removeRecipe_55, g_X12_removeRecipe_56, g_X12_removeRecipe_59, lk_X12_removeRecipe, XI, Nat.reduceAdd, Nat.reduceEqDiff, not_false_eq_true, nI_T1, nI_T0, true_and, and_true, WC, WV, WU, nI_leS, Nat.le_refl, if_true]
    exact h
  | succ m ih =>
    intro k hk h
    rw [g_X12_removeRecipe_38]
    simp (disch := omega) only [g_X12_removeRecipe_39, g_X12_removeRecipe_41, g_X12_removeRecipe_44, g_X12_removeRecipe_45, g_X12_removeRecipe_48, g_X12_removeRecipe_50, g_X12_removeRecipe_51, g_X12_removeRecipe_52, g_X12_removeRecipe_53, g_X12_removeRecipe_54, g_X12_removeRecipe_55, g_X12_removeRecipe_56, g_X12_removeRecipe_59, lk_X12_removeRecipe, XI, Nat.reduceAdd, Nat.reduceEqDiff, not_false_eq_true, nI_T1, nI_T0, true_and, and_true, WC, WV, WU, nI_leS, nI_addS, nI_mulS, nI_cl, rs_in_t]
    rw [if_neg (by omega), cpU_s I 62 (30 * r) (30 * r + k) (fun _ => nI 0) (Nat.le_add_right _ _) rfl]
    exact ih (k + 1) (by omega) h
theorem b_removeRecipe (hS : SOk D Ds L tp) (x0 : Int32) : BC yX11_removeRecipe yX12_removeRecipe [.int x0] D Ds L tp rea := by
  by_cases c0 : nI 0 ≤ x0 ∧ x0 ≤ nI 7
  · obtain ⟨r, -, hr0, rfl⟩ := (nI_within (by decide) (by decide)).mp c0
    have hr : r < 8 := by omega
    cases hz : D.rc r with
    | none =>
      refine BC_same hS (.int (-3)) (Or.inl ⟨_, rfl⟩) (fun d P n s I J R Q h hQ => ?_) (fun d P n s I J R Q h hQ => ?_)
      · obtain ⟨q, hR, hq⟩ := h.2.1
        rw [em_X11_removeRecipe]
        simp (disch := omega) only [g_X11_removeRecipe_0, g_X11_removeRecipe_1, g_X11_removeRecipe_4, g_X11_removeRecipe_7, g_X11_removeRecipe_8, g_X11_removeRecipe_9, g_X11_removeRecipe_10, g_X11_removeRecipe_13, g_X11_removeRecipe_14, g_X11_removeRecipe_17, g_X11_removeRecipe_18, g_X11_removeRecipe_19, g_X11_removeRecipe_22, g_X11_removeRecipe_24, lk_X11_removeRecipe, XI, Nat.reduceAdd, Nat.reduceEqDiff, not_false_eq_true, nI_T1, nI_T0, true_and, and_true, WC, WV, WU, rs_b_0, rs_b_ok2, true_or, or_true, Classical.not_not, not_true_eq_false, if_true, if_false, reduceCtorEq, s_X11_isRecipe, c0, hR, va_rf, k_St P n s I J R hq, g_recipeAt_n n s I J R hq hr hz]
        exact hQ
      · have e : ¬ I 62 (30 * r) = nI 1 := fun z => ((s_rowIsThere h.1 hr).mp z) hz
        rw [em_X12_removeRecipe]
        simp (disch := omega) only [g_X12_removeRecipe_0, g_X12_removeRecipe_1, g_X12_removeRecipe_4, g_X12_removeRecipe_7, g_X12_removeRecipe_8, g_X12_removeRecipe_9, g_X12_removeRecipe_10, g_X12_removeRecipe_11, g_X12_removeRecipe_14, g_X12_removeRecipe_17, g_X12_removeRecipe_19, lk_X12_removeRecipe, XI, Nat.reduceAdd, Nat.reduceEqDiff, not_false_eq_true, nI_T1, nI_T0, true_and, and_true, WC, WV, WU, rs_b_0, rs_b_ok2, true_or, or_true, Classical.not_not, not_true_eq_false, if_true, if_false, reduceCtorEq, s_X12_isNumber, c0, s_X12_isThere, e]
        exact hQ
    | some Z =>
      have hZ := (hS.1.1 r Z hz).2
      have hD' : (D.setR r none).ok := Dt.setR_ok hS.1 (fun Z e => by cases e)
      have hl := hZ.2.1
      refine ⟨D.setR r none, Ds, nxL L D, tp, rea, .int (nI Z.its.length), nxL_ok hS hD', fun d P n s I J R Q h hQ => ?_, fun d P n s I J R Q g8 h hQ => ?_, Or.inl ⟨_, rfl⟩⟩
      · obtain ⟨q, hR, hq⟩ := h.2.1
        have h84 := h.1
        obtain ⟨y, hy, cy⟩ := g_recipeAt_s hq hr hz
        rw [em_X11_removeRecipe]
        simp (disch := omega) only [g_X11_removeRecipe_0, g_X11_removeRecipe_1, g_X11_removeRecipe_4, g_X11_removeRecipe_7, g_X11_removeRecipe_8, g_X11_removeRecipe_9, g_X11_removeRecipe_10, g_X11_removeRecipe_13, g_X11_removeRecipe_14, g_X11_removeRecipe_17, g_X11_removeRecipe_18, g_X11_removeRecipe_19, g_X11_removeRecipe_22, g_X11_removeRecipe_24, g_X11_removeRecipe_25, g_X11_removeRecipe_26, g_X11_removeRecipe_29, lk_X11_removeRecipe, XI, Nat.reduceAdd, Nat.reduceEqDiff, not_false_eq_true, nI_T1, nI_T0, true_and, and_true, WC, WV, WU, rs_b_0, rs_b_ok2, true_or, or_true, Classical.not_not, not_true_eq_false, if_true, if_false, reduceCtorEq, s_X11_isRecipe, c0, hR, va_rf, k_St P n s I J R hq, cy]
        refine s_X7_copy n s I J R (d + 57) _ h84 hq ?_
        intro P1 V Ua Uc Ue o1 p1
        simp (disch := omega) only [g_X11_removeRecipe_32, g_X11_removeRecipe_33, g_X11_removeRecipe_34, g_X11_removeRecipe_35, g_X11_removeRecipe_36, lk_X11_removeRecipe, XI, Nat.reduceAdd, Nat.reduceEqDiff, not_false_eq_true, nI_T1, nI_T0, true_and, and_true, WC, WV, WU, k_oSt (n + 4) _ I J R o1]
        refine p_recipe (n + 4) _ I J R _ _ o1 (by omega) hr none none (fun _ => rfl) (fun X e => by cases e) ?_
        intro o2
        simp (disch := omega) only [g_X11_removeRecipe_39, g_X11_removeRecipe_40, g_X11_removeRecipe_41, lk_X11_removeRecipe, XI, Nat.reduceAdd, Nat.reduceEqDiff, not_false_eq_true, nI_T1, nI_T0, true_and, and_true, WC, WV, WU]
        have hP2 : ∀ j, j < n → va_up P1 (n + 1) (some (17, 8, va_up Ua r (va_rf none))) j = P j := fun j hj => by rw [vu_ne _ _ (by omega)]; exact p1 j hj
        refine s_commit (n + 4) _ I J R _ _ hS h hP2 (by omega) (cSt_o.mpr ⟨_, _, _, _, _, _, _, o2⟩) ?_
        intro I' R' h' f'
        have hy' := cRc_m hP2 (show n ≤ n + 4 by omega) hy
        simp (disch := omega) only [g_X11_removeRecipe_44, g_X11_removeRecipe_45, g_X11_removeRecipe_48, lk_X11_removeRecipe, XI, Nat.reduceAdd, Nat.reduceEqDiff, not_false_eq_true, nI_T1, nI_T0, true_and, and_true, WC, WV, WU, k_Rc _ _ _ _ _ _ hy', s_itemCount _ _ _ _ _ _ _ hy' hZ]
        exact hQ _ _ _ I' J R' h' f' (fC_r J) (by omega) (by omega)
      · have e : I 62 (30 * r) = nI 1 := (s_rowIsThere h.1 hr).mpr (by rw [hz]; intro z; cases z)
        have hrc := h.1.1 r hr
        rw [hz] at hrc
        have e1 : I 62 (30 * r + 1) = nI Z.its.length := hrc.2.1
        have hL := hS.2.2.1
        have k62 : ∀ j, kpI I L.length 62 j = I 62 j := fun j => kpI_ne I _ (by omega) (by decide)
        rw [em_X12_removeRecipe]
        simp (disch := omega) only [g_X12_removeRecipe_0, g_X12_removeRecipe_1, g_X12_removeRecipe_4, g_X12_removeRecipe_7, g_X12_removeRecipe_8, g_X12_removeRecipe_9, g_X12_removeRecipe_10, g_X12_removeRecipe_11, g_X12_removeRecipe_14, g_X12_removeRecipe_17, g_X12_removeRecipe_19, g_X12_removeRecipe_20, g_X12_removeRecipe_21, g_X12_removeRecipe_24, g_X12_removeRecipe_25, g_X12_removeRecipe_28, g_X12_removeRecipe_30, g_X12_removeRecipe_31, g_X12_removeRecipe_32, g_X12_removeRecipe_33, g_X12_removeRecipe_34, g_X12_removeRecipe_35, g_X12_removeRecipe_36, g_X12_removeRecipe_37, lk_X12_removeRecipe, XI, Nat.reduceAdd, Nat.reduceEqDiff, not_false_eq_true, nI_T1, nI_T0, true_and, and_true, WC, WV, WU, rs_b_0, rs_b_ok2, true_or, or_true, Classical.not_not, not_true_eq_false, if_true, if_false, reduceCtorEq, s_X12_isNumber, c0, s_X12_isThere, e, s_X12_keep _ P n s I J R _ hL h.2.2.1, nI_addS, nI_mulS, nI_cl, rs_in_t, k62, e1]
        have e2 := cpU_0 (kpI I L.length) 62 (30 * r) fun _ => nI 0
        have hl2 := X12_remove_l P n s (kpI I L.length) J R (d + 60) Q hr (nI Z.its.length) 30 0 rfl
        rw [show 30 * r + 0 = 30 * r from rfl, e2] at hl2
        refine hl2 ?_
        simp (disch := omega) only [g_X12_removeRecipe_62, g_X12_removeRecipe_63, lk_X12_removeRecipe, XI, Nat.reduceAdd, Nat.reduceEqDiff, not_false_eq_true, nI_T1, nI_T0, true_and, and_true, WC, WV, WU]
        refine hQ _ J (RI_keep hS h (mDt_R hS.1 hr (fun j hj => ?_) ⟨?_, ?_⟩ h.1) (fun q j h1 h2 => cpU_ne _ _ _ _ _ _ h1)) (fR_cp (kpI_R I _) (by decide)) (fR_r J)
        · rw [cpU_out _ _ _ _ _ hj]
          exact k62 j
        · rw [cpU_in _ _ _ _ _ (by omega) (by omega)]
        · rw [cpU_in _ _ _ _ _ (by omega) (by omega)]
  · refine BC_same hS (.int (-1)) (Or.inl ⟨_, rfl⟩) (fun d P n s I J R Q h hQ => ?_) (fun d P n s I J R Q h hQ => ?_)
    · rw [em_X11_removeRecipe]
      simp (disch := omega) only [g_X11_removeRecipe_0, g_X11_removeRecipe_1, g_X11_removeRecipe_4, g_X11_removeRecipe_7, g_X11_removeRecipe_8, lk_X11_removeRecipe, XI, Nat.reduceAdd, Nat.reduceEqDiff, not_false_eq_true, nI_T1, nI_T0, true_and, and_true, WC, WV, WU, rs_b_0, rs_b_ok2, true_or, or_true, Classical.not_not, not_true_eq_false, if_true, if_false, reduceCtorEq, s_X11_isIngredient, s_X11_isRecipe, s_X11_isWithin, s_X11_isPart, c0]
      exact hQ
    · rw [em_X12_removeRecipe]
      simp (disch := omega) only [g_X12_removeRecipe_0, g_X12_removeRecipe_1, g_X12_removeRecipe_4, g_X12_removeRecipe_7, g_X12_removeRecipe_8, lk_X12_removeRecipe, XI, Nat.reduceAdd, Nat.reduceEqDiff, not_false_eq_true, nI_T1, nI_T0, true_and, and_true, WC, WV, WU, rs_b_0, rs_b_ok2, true_or, or_true, Classical.not_not, not_true_eq_false, if_true, if_false, reduceCtorEq, s_X12_isIngredient, s_X12_isNumber, s_X12_in, c0]
      exact hQ
/-- the reference lays a plan -/
theorem r_plans (hS : SOk D Ds L tp) {r a b : Nat} (hr : r < 8) (ha1 : 1 ≤ a) (ha : a ≤ 9999) (hb1 : 1 ≤ b) (hb : b ≤ 9999) {q : Nat × Nat} (hq : fr a b = some q) (d : Nat) (P : Nat → Option rs_C) (n s : Nat) (I : Nat → Nat → Int32) (J : Nat → Nat → Int64) (R : Nat → Nat → Option Nat) (Q : rs_H → Option Value → Prop) (g8 : I 61 8 = nI 0 ∨ I 61 8 = nI 1) (h : RI I D Ds L tp rea) (hD' : (D.setP (some (r, q))).ok)
    (hQ : ∀ I' J', RI I' (D.setP (some (r, q))) Ds (nxL L D) tp (reaD (D.setP (some (r, q))) rea) → fR I I' → fR J J' → Q (sk_w P n s I' J' R) (some (.int (rs_b (whyD (D.setP (some (r, q))) = 0))))) : rs_XM (d + 6) yX12_plans [.ref 61, .int (nI r), .int (nI a), .int (nI b)] (sk_w P n s I J R) Q := by
  have hL := hS.2.2.1
  have k62 : ∀ j, kpI I L.length 62 j = I 62 j := fun j => kpI_ne I _ (by omega) (by decide)
  have k8 : kpI I L.length 61 8 = I 61 8 := kpI_ne I _ (by omega) (by decide)
  obtain ⟨g, hg1, hg8⟩ : ∃ g, g ≤ 1 ∧ I 61 8 = nI g := by
    rcases g8 with e | e
    · exact ⟨0, Nat.zero_le 1, e⟩
    · exact ⟨1, Nat.le_refl 1, e⟩
  have hqF := fr_isF hb1 hq
  have hq1 := hqF.1
  have hq2 := hqF.2.2.1
  have eg : grt g a b = g := by unfold grt; rw [hq, if_neg (by intro z; cases z)]
  have eq1 : q = (a / Nat.gcd a b, b / Nat.gcd a b) := by
    obtain ⟨q2, e1, e2, -⟩ := fr_small ha hb1 hb
    rw [hq] at e1
    cases e1
    exact e2
  have u1 : a / Nat.gcd a b = q.1 := by rw [eq1]
  have u2 : b / Nat.gcd a b = q.2 := by rw [eq1]
  rw [em_X12_plans]
  simp (disch := omega) only [g_X12_plans_0, g_X12_plans_1, g_X12_plans_4, g_X12_plans_5, g_X12_plans_6, g_X12_plans_7, g_X12_plans_8, g_X12_plans_9, g_X12_plans_12, g_X12_plans_13, g_X12_plans_16, g_X12_plans_19, g_X12_plans_20, g_X12_plans_21, g_X12_plans_22, g_X12_plans_25, g_X12_plans_28, g_X12_plans_29, g_X12_plans_32, g_X12_plans_33, g_X12_plans_34, g_X12_plans_35, g_X12_plans_38, g_X12_plans_41, g_X12_plans_42, g_X12_plans_45, g_X12_plans_46, g_X12_plans_47, g_X12_plans_48, lk_X12_plans, XI, Nat.reduceAdd, Nat.reduceEqDiff, not_false_eq_true, nI_T1, nI_T0, true_and, and_true, WC, WV, WU, s_X12_keep _ P n s I J R _ hL h.2.2.1, nI_long (show a ≤ 1000000000 by omega), nI_long (show b ≤ 1000000000 by omega), s_X12_reduce _ P n s _ J R _ hg1 (k8.trans hg8) (show a < 2 ^ 63 by omega) hb1 (show b ≤ 1000000000000000000 by omega), eg, nI_cl, rs_in_t, rs_u2_eq, rs_u2_ne, lN_i, u1, u2]
  generalize hI1 : rs_u2 (rs_u2 (rs_u2 (rs_u2 (kpI I L.length) 61 8 (nI g)) 62 445 (nI r)) 62 446 (nI q.1)) 62 447 (nI q.2) = I1
  have hne : ∀ a2 j, ¬ a2 = 62 → ¬ (a2 = 61 ∧ j = 8) → I1 a2 j = kpI I L.length a2 j := fun a2 j h1 h2 => by rw [← hI1, rs_u2_ne _ _ (by omega), rs_u2_ne _ _ (by omega), rs_u2_ne _ _ (by omega), rs_u2_ne _ _ (by omega)]
  have hRI : RI I1 (D.setP (some (r, q))) Ds (nxL L D) tp rea := by
    refine RI_keep hS h (mDt_P hS.1 (fun j hj => ?_) ⟨?_, ?_, ?_⟩ h.1) hne
    · rw [← hI1, rs_u2_ne _ _ (by omega), rs_u2_ne _ _ (by omega), rs_u2_ne _ _ (by omega), rs_u2_ne _ _ (by omega)]
      exact k62 j
    · rw [← hI1, rs_u2_ne _ _ (by omega), rs_u2_ne _ _ (by omega), rs_u2_eq]
    · rw [← hI1, rs_u2_ne _ _ (by omega), rs_u2_eq]
    · rw [← hI1, rs_u2_eq]
  have f1 : fR I I1 := fun q j hq => by rw [hne q j (by omega) (by omega)]; exact kpI_R I _ q j hq
  refine r_isFound P n s I1 _ R d _ hD' hRI (by intro z; cases z) ?_
  intro I' J' h' f2 f3 hv
  have hQ' := hQ I' J' h' (fR_t f1 f2) (fR_t (fR_u (fR_u (fR_r J) (by decide)) (by decide)) f3)
  by_cases hw : whyD (D.setP (some (r, q))) = 0
  · rw [rs_b_t hw] at hQ'
    simp (disch := omega) only [g_X12_plans_51, g_X12_plans_54, g_X12_plans_55, g_X12_plans_58, g_X12_plans_59, lk_X12_plans, XI, Nat.reduceAdd, Nat.reduceEqDiff, not_false_eq_true, nI_T1, nI_T0, true_and, and_true, WC, WV, WU, rs_b_0, rs_b_ok2, true_or, or_true, Classical.not_not, not_true_eq_false, if_true, if_false, reduceCtorEq, hw]
    exact hQ'
  · rw [rs_b_f hw] at hQ'
    simp (disch := omega) only [g_X12_plans_51, g_X12_plans_54, g_X12_plans_55, g_X12_plans_58, g_X12_plans_59, lk_X12_plans, XI, Nat.reduceAdd, Nat.reduceEqDiff, not_false_eq_true, nI_T1, nI_T0, true_and, and_true, WC, WV, WU, rs_b_0, rs_b_ok2, true_or, or_true, Classical.not_not, not_true_eq_false, if_true, if_false, reduceCtorEq, hw]
    exact hQ'
theorem fr_pl {r a b : Nat} (hr : r < 8) (ha1 : 1 ≤ a) (ha : a ≤ 9999) (hb1 : 1 ≤ b) (hb : b ≤ 9999) (hD : D.ok) : ∃ q, fr a b = some q ∧ isF q ∧ (D.setP (some (r, q))).ok := by
  obtain ⟨q, e1, e2, e3⟩ := fr_small ha hb1 hb
  refine ⟨q, e1, e3, Dt.setP_ok hD ?_⟩
  intro r2 q2 e
  cases e
  refine ⟨hr, e3, ?_⟩
  rw [e2]
  exact Nat.div_pos (Nat.le_of_dvd ha1 (Nat.gcd_dvd_left a b)) (Nat.gcd_pos_of_pos_left b ha1)
theorem cPl_s (r : Nat) (q : Nat × Nat) : ∀ V : Nat → Value, V 3 = .int (nI r) → V 4 = .long (pkF q) → cPl V (some (r, q)) := fun _ h1 h2 => ⟨h1, h2⟩
theorem b_scale (hS : SOk D Ds L tp) (x0 x1 x2 : Int32) : BC yX11_scale yX12_scale [.int x0, .int x1, .int x2] D Ds L tp rea := by
  by_cases c0 : nI 0 ≤ x0 ∧ x0 ≤ nI 7
  · obtain ⟨r, -, hr0, rfl⟩ := (nI_within (by decide) (by decide)).mp c0
    have hr : r < 8 := by omega
    cases hz : D.rc r with
    | none =>
      refine BC_same hS (.int (-3)) (Or.inl ⟨_, rfl⟩) (fun d P n s I J R Q h hQ => ?_) (fun d P n s I J R Q h hQ => ?_)
      · obtain ⟨q, hR, hq⟩ := h.2.1
        rw [em_X11_scale]
        simp (disch := omega) only [g_X11_scale_0, g_X11_scale_1, g_X11_scale_4, g_X11_scale_7, g_X11_scale_8, g_X11_scale_9, g_X11_scale_10, g_X11_scale_13, g_X11_scale_14, g_X11_scale_17, g_X11_scale_20, g_X11_scale_22, lk_X11_scale, XI, Nat.reduceAdd, Nat.reduceEqDiff, not_false_eq_true, nI_T1, nI_T0, true_and, and_true, WC, WV, WU, rs_b_0, rs_b_ok2, true_or, or_true, Classical.not_not, not_true_eq_false, if_true, if_false, reduceCtorEq, s_X11_isRecipe, c0, hR, va_rf, k_St P n s I J R hq, g_recipeAt_n n s I J R hq hr hz]
        exact hQ
      · have e : ¬ I 62 (30 * r) = nI 1 := fun z => ((s_rowIsThere h.1 hr).mp z) hz
        rw [em_X12_scale]
        simp (disch := omega) only [g_X12_scale_0, g_X12_scale_1, g_X12_scale_4, g_X12_scale_7, g_X12_scale_8, g_X12_scale_9, g_X12_scale_10, g_X12_scale_11, g_X12_scale_14, g_X12_scale_17, g_X12_scale_19, lk_X12_scale, XI, Nat.reduceAdd, Nat.reduceEqDiff, not_false_eq_true, nI_T1, nI_T0, true_and, and_true, WC, WV, WU, rs_b_0, rs_b_ok2, true_or, or_true, Classical.not_not, not_true_eq_false, if_true, if_false, reduceCtorEq, s_X12_isNumber, c0, s_X12_isThere, e]
        exact hQ
    | some Z =>
      have he : ∀ I : Nat → Nat → Int32, mDt (I 62) D → I 62 (30 * r) = nI 1 := fun I hM => (s_rowIsThere hM hr).mpr (by rw [hz]; intro z; cases z)
      by_cases c1 : nI 1 ≤ x1 ∧ x1 ≤ nI 9999
      · by_cases c2 : nI 1 ≤ x2 ∧ x2 ≤ nI 9999
        · obtain ⟨a, ha1, ha, rfl⟩ := (nI_within (by decide) (by decide)).mp c1
          obtain ⟨b, hb1, hb, rfl⟩ := (nI_within (by decide) (by decide)).mp c2
          obtain ⟨f, hfr, hF, hD'⟩ := fr_pl hr ha1 ha hb1 hb hS.1
          refine ⟨D.setP (some (r, f)), Ds, nxL L D, tp, reaD (D.setP (some (r, f))) rea, .int (rs_b (whyD (D.setP (some (r, f))) = 0)), nxL_ok hS hD', fun d P n s I J R Q h hQ => ?_, fun d P n s I J R Q g8 h hQ => ?_, Or.inl ⟨_, rfl⟩⟩
          · obtain ⟨q, hR, hq⟩ := h.2.1
            have h84 := h.1
            obtain ⟨y, hy, cy⟩ := g_recipeAt_s hq hr hz
            rw [em_X11_scale]
            simp (disch := omega) only [g_X11_scale_0, g_X11_scale_1, g_X11_scale_4, g_X11_scale_7, g_X11_scale_8, g_X11_scale_9, g_X11_scale_10, g_X11_scale_13, g_X11_scale_14, g_X11_scale_17, g_X11_scale_20, g_X11_scale_22, g_X11_scale_23, g_X11_scale_24, g_X11_scale_25, g_X11_scale_28, g_X11_scale_31, g_X11_scale_34, g_X11_scale_35, g_X11_scale_36, g_X11_scale_39, g_X11_scale_42, g_X11_scale_45, g_X11_scale_47, g_X11_scale_48, g_X11_scale_49, g_X11_scale_50, g_X11_scale_53, g_X11_scale_54, g_X11_scale_55, g_X11_scale_56, g_X11_scale_57, g_X11_scale_58, g_X11_scale_61, lk_X11_scale, XI, Nat.reduceAdd, Nat.reduceEqDiff, not_false_eq_true, nI_T1, nI_T0, true_and, and_true, WC, WV, WU, rs_b_0, rs_b_ok2, true_or, or_true, Classical.not_not, not_true_eq_false, if_true, if_false, reduceCtorEq, s_X11_isRecipe, s_X11_isWithin, c0, c1, c2, hR, va_rf, k_St P n s I J R hq, cy, nI_long (show a ≤ 1000000000 by omega), nI_long (show b ≤ 1000000000 by omega), s_X0_of _ _ _ (show a < 2 ^ 63 by omega) (show 1 ≤ b by omega) (show b ≤ 1000000000000000000 by omega), hfr, pkO_s]
            refine s_withPlan n s I J R (d + 56) _ h84 hq (cPl_s r f) ?_
            intro P1 V Ua Uc Ue o1 p1
            simp (disch := omega) only [g_X11_scale_64, lk_X11_scale, XI, Nat.reduceAdd, Nat.reduceEqDiff, not_false_eq_true, nI_T1, nI_T0, true_and, and_true, WC, WV, WU]
            refine s_commit (n + 4) _ I J R _ _ hS h p1 (by omega) (cSt_o.mpr ⟨_, _, _, _, _, _, _, o1⟩) ?_
            intro I' R' h' f'
            simp (disch := omega) only [g_X11_scale_67, g_X11_scale_68, lk_X11_scale, XI, Nat.reduceAdd, Nat.reduceEqDiff, not_false_eq_true, nI_T1, nI_T0, true_and, and_true, WC, WV, WU]
            refine c_findPlan P1 (n + 4) (s + 31) I' J R' (d + 36) _ hD' h' ?_
            intro I2 J2 h2 f2 f3 hv
            have hQ' := hQ P1 (n + 4) (s + 31) I2 J2 R' h2 (fC_t f' f2) f3 (by omega) (by omega)
            by_cases hw : whyD (D.setP (some (r, f))) = 0
            · rw [rs_b_t hw] at hQ'
              simp (disch := omega) only [g_X11_scale_71, g_X11_scale_74, g_X11_scale_75, g_X11_scale_78, g_X11_scale_79, lk_X11_scale, XI, Nat.reduceAdd, Nat.reduceEqDiff, not_false_eq_true, nI_T1, nI_T0, true_and, and_true, WC, WV, WU, rs_b_0, rs_b_ok2, true_or, or_true, Classical.not_not, not_true_eq_false, if_true, if_false, reduceCtorEq, hw]
              exact hQ'
            · rw [rs_b_f hw] at hQ'
              simp (disch := omega) only [g_X11_scale_71, g_X11_scale_74, g_X11_scale_75, g_X11_scale_78, g_X11_scale_79, lk_X11_scale, XI, Nat.reduceAdd, Nat.reduceEqDiff, not_false_eq_true, nI_T1, nI_T0, true_and, and_true, WC, WV, WU, rs_b_0, rs_b_ok2, true_or, or_true, Classical.not_not, not_true_eq_false, if_true, if_false, reduceCtorEq, hw]
              exact hQ'
          · rw [em_X12_scale]
            simp (disch := omega) only [g_X12_scale_0, g_X12_scale_1, g_X12_scale_4, g_X12_scale_7, g_X12_scale_8, g_X12_scale_9, g_X12_scale_10, g_X12_scale_11, g_X12_scale_14, g_X12_scale_17, g_X12_scale_19, g_X12_scale_20, g_X12_scale_21, g_X12_scale_22, g_X12_scale_25, g_X12_scale_28, g_X12_scale_31, g_X12_scale_32, g_X12_scale_33, g_X12_scale_36, g_X12_scale_39, g_X12_scale_42, g_X12_scale_44, g_X12_scale_45, g_X12_scale_46, g_X12_scale_47, g_X12_scale_48, g_X12_scale_49, lk_X12_scale, XI, Nat.reduceAdd, Nat.reduceEqDiff, not_false_eq_true, nI_T1, nI_T0, true_and, and_true, WC, WV, WU, rs_b_0, rs_b_ok2, true_or, or_true, Classical.not_not, not_true_eq_false, if_true, if_false, reduceCtorEq, s_X12_isNumber, s_X12_in, c0, c1, c2, s_X12_isThere, he I h.1]
            refine r_plans hS hr ha1 ha hb1 hb hfr (d + 53) P n s I J R _ g8 h hD' ?_
            intro I' J' h' f1 f2
            simp (disch := omega) only [g_X12_scale_52, lk_X12_scale, XI, Nat.reduceAdd, Nat.reduceEqDiff, not_false_eq_true, nI_T1, nI_T0, true_and, and_true, WC, WV, WU]
            exact hQ I' J' h' f1 f2
        · refine BC_same hS (.int (-2)) (Or.inl ⟨_, rfl⟩) (fun d P n s I J R Q h hQ => ?_) (fun d P n s I J R Q h hQ => ?_)
          · obtain ⟨q, hR, hq⟩ := h.2.1
            obtain ⟨y, hy, cy⟩ := g_recipeAt_s hq hr hz
            rw [em_X11_scale]
            simp (disch := omega) only [g_X11_scale_0, g_X11_scale_1, g_X11_scale_4, g_X11_scale_7, g_X11_scale_8, g_X11_scale_9, g_X11_scale_10, g_X11_scale_13, g_X11_scale_14, g_X11_scale_17, g_X11_scale_20, g_X11_scale_22, g_X11_scale_23, g_X11_scale_24, g_X11_scale_25, g_X11_scale_28, g_X11_scale_31, g_X11_scale_34, g_X11_scale_35, g_X11_scale_36, g_X11_scale_39, g_X11_scale_42, g_X11_scale_45, g_X11_scale_47, lk_X11_scale, XI, Nat.reduceAdd, Nat.reduceEqDiff, not_false_eq_true, nI_T1, nI_T0, true_and, and_true, WC, WV, WU, rs_b_0, rs_b_ok2, true_or, or_true, Classical.not_not, not_true_eq_false, if_true, if_false, reduceCtorEq, s_X11_isRecipe, s_X11_isWithin, c0, c1, c2, hR, va_rf, k_St P n s I J R hq, cy]
            exact hQ
          · rw [em_X12_scale]
            simp (disch := omega) only [g_X12_scale_0, g_X12_scale_1, g_X12_scale_4, g_X12_scale_7, g_X12_scale_8, g_X12_scale_9, g_X12_scale_10, g_X12_scale_11, g_X12_scale_14, g_X12_scale_17, g_X12_scale_19, g_X12_scale_20, g_X12_scale_21, g_X12_scale_22, g_X12_scale_25, g_X12_scale_28, g_X12_scale_31, g_X12_scale_32, g_X12_scale_33, g_X12_scale_36, g_X12_scale_39, g_X12_scale_42, g_X12_scale_44, lk_X12_scale, XI, Nat.reduceAdd, Nat.reduceEqDiff, not_false_eq_true, nI_T1, nI_T0, true_and, and_true, WC, WV, WU, rs_b_0, rs_b_ok2, true_or, or_true, Classical.not_not, not_true_eq_false, if_true, if_false, reduceCtorEq, s_X12_isNumber, s_X12_in, c0, c1, c2, s_X12_isThere, he I h.1]
            exact hQ
      · refine BC_same hS (.int (-2)) (Or.inl ⟨_, rfl⟩) (fun d P n s I J R Q h hQ => ?_) (fun d P n s I J R Q h hQ => ?_)
        · obtain ⟨q, hR, hq⟩ := h.2.1
          obtain ⟨y, hy, cy⟩ := g_recipeAt_s hq hr hz
          rw [em_X11_scale]
          simp (disch := omega) only [g_X11_scale_0, g_X11_scale_1, g_X11_scale_4, g_X11_scale_7, g_X11_scale_8, g_X11_scale_9, g_X11_scale_10, g_X11_scale_13, g_X11_scale_14, g_X11_scale_17, g_X11_scale_20, g_X11_scale_22, g_X11_scale_23, g_X11_scale_24, g_X11_scale_25, g_X11_scale_28, g_X11_scale_31, g_X11_scale_34, g_X11_scale_35, g_X11_scale_36, g_X11_scale_39, g_X11_scale_42, g_X11_scale_45, g_X11_scale_47, lk_X11_scale, XI, Nat.reduceAdd, Nat.reduceEqDiff, not_false_eq_true, nI_T1, nI_T0, true_and, and_true, WC, WV, WU, rs_b_0, rs_b_ok2, true_or, or_true, Classical.not_not, not_true_eq_false, if_true, if_false, reduceCtorEq, s_X11_isRecipe, s_X11_isWithin, c0, c1, hR, va_rf, k_St P n s I J R hq, cy]
          exact hQ
        · rw [em_X12_scale]
          simp (disch := omega) only [g_X12_scale_0, g_X12_scale_1, g_X12_scale_4, g_X12_scale_7, g_X12_scale_8, g_X12_scale_9, g_X12_scale_10, g_X12_scale_11, g_X12_scale_14, g_X12_scale_17, g_X12_scale_19, g_X12_scale_20, g_X12_scale_21, g_X12_scale_22, g_X12_scale_25, g_X12_scale_28, g_X12_scale_31, g_X12_scale_32, g_X12_scale_33, g_X12_scale_36, g_X12_scale_39, g_X12_scale_42, g_X12_scale_44, lk_X12_scale, XI, Nat.reduceAdd, Nat.reduceEqDiff, not_false_eq_true, nI_T1, nI_T0, true_and, and_true, WC, WV, WU, rs_b_0, rs_b_ok2, true_or, or_true, Classical.not_not, not_true_eq_false, if_true, if_false, reduceCtorEq, s_X12_isNumber, s_X12_in, c0, c1, s_X12_isThere, he I h.1]
          exact hQ
  · refine BC_same hS (.int (-1)) (Or.inl ⟨_, rfl⟩) (fun d P n s I J R Q h hQ => ?_) (fun d P n s I J R Q h hQ => ?_)
    · rw [em_X11_scale]
      simp (disch := omega) only [g_X11_scale_0, g_X11_scale_1, g_X11_scale_4, g_X11_scale_7, g_X11_scale_8, lk_X11_scale, XI, Nat.reduceAdd, Nat.reduceEqDiff, not_false_eq_true, nI_T1, nI_T0, true_and, and_true, WC, WV, WU, rs_b_0, rs_b_ok2, true_or, or_true, Classical.not_not, not_true_eq_false, if_true, if_false, reduceCtorEq, s_X11_isIngredient, s_X11_isRecipe, s_X11_isWithin, s_X11_isPart, c0]
      exact hQ
    · rw [em_X12_scale]
      simp (disch := omega) only [g_X12_scale_0, g_X12_scale_1, g_X12_scale_4, g_X12_scale_7, g_X12_scale_8, lk_X12_scale, XI, Nat.reduceAdd, Nat.reduceEqDiff, not_false_eq_true, nI_T1, nI_T0, true_and, and_true, WC, WV, WU, rs_b_0, rs_b_ok2, true_or, or_true, Classical.not_not, not_true_eq_false, if_true, if_false, reduceCtorEq, s_X12_isIngredient, s_X12_isNumber, s_X12_in, c0]
      exact hQ
end
