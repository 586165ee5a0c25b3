/-! the class reads items and recipes -/
theorem aL_neg {o : Option (Nat × Nat)} (h : ∀ f, o = some f → isF (lw f)) : (0 ≤ aL o) ↔ ¬ o = none := by
  cases o with
  | none => exact ⟨fun z => absurd z (by decide), fun z => absurd rfl z⟩
  | some f => exact ⟨fun _ z => (by cases z), fun _ => Int64.not_lt.mp (pkF_nn (h f rfl))⟩
theorem oI_ge {o : Option Nat} (h : ∀ v, o = some v → v < 2147483648) : (0 ≤ oI o) ↔ ¬ o = none := by
  cases o with
  | none => exact ⟨fun z => absurd z (by decide), fun z => absurd rfl z⟩
  | some v => exact ⟨fun _ z => (by cases z), fun _ => (nI_ge0S (h v rfl)).mpr trivial⟩
theorem oI_s (v : Nat) : oI (some v) = nI v := rfl
theorem aL_s (f : Nat × Nat) : aL (some f) = pkF (lw f) := rfl
theorem m1_ge : ((0 : Int32) ≤ -1) ↔ False := ⟨fun z => absurd z (by decide), fun z => z.elim⟩
theorem m1_lt : ((-1 : Int32) < 0) ↔ True := ⟨fun _ => trivial, fun _ => by decide⟩
section
variable {tp : List Nat} (I : Nat → Nat → Int32) (J : Nat → Nat → Int64) (R : Nat → Nat → Option Nat) (d : Nat) (Q : rs_H → Option Value → Prop)
theorem c_item (P : Nat → Option rs_C) (n s : Nat) (h84 : 84 ≤ n) (hT : TC I tp) {p : Nat} (hp : p ≤ tp.length) (hn : (pIt tp p).2 = none → Q (sk_w P n s (rs_u2 I 43 2 (nI (pIt tp p).1)) J R) (some .null)) (hs : ∀ t P', (pIt tp p).2 = some t → cIt P' (n + 1) n t → (∀ i, i < n → P' i = P i) → Q (sk_w P' (n + 1) (s + 3) (rs_u2 I 43 2 (nI (pIt tp p).1)) J R) (some (.ref n))) : rs_XM (d + 3) yX10_takeItem [.ref 43] (sk_w P n s (rs_u2 I 43 2 (nI p)) J R) Q := by
  have h1 := pF_le (tp := tp) hp
  have h2 := pUn_le (tp := tp) h1.1
  have h3 := pSo_le (tp := tp) h2.1
  have ha : ∀ f, (pF tp p).2 = some f → isF (lw f) := fun f e => (lw_fr (h1.2 f e)).2.1
  have hu : ∀ v, (pUn tp (pF tp p).1).2 = some v → v < 2147483648 := fun v e => by have := h2.2 v e; omega
  have hso : ∀ v, (pSo tp (pUn tp (pF tp p).1).1).2 = some v → v < 2147483648 := fun v e => by have := h3.2 v e; omega
  have kn : sk_kn n = none := sk_kn_ge n h84
  rw [em_X10_takeItem]
  unfold pIt pAm at hn hs
  simp (disch := omega) only [g_X10_takeItem_0, g_X10_takeItem_1, g_X10_takeItem_4, g_X10_takeItem_5, g_X10_takeItem_6, g_X10_takeItem_7, g_X10_takeItem_8, lk_X10_takeItem, XI, Nat.reduceAdd, Nat.reduceEqDiff, not_false_eq_true, nI_T1, nI_T0, true_and, and_true, WC, WV, WU, c_amount P n s I J R _ _ hT hp, lg_cmp_ge, lg_cmp_lt, lN_0, aL_neg ha]
  cases e1 : (pF tp p).2 with
  | none =>
    rw [e1] at hn
    simp (disch := omega) only [not_true_eq_false, if_false, g_X10_takeItem_11, g_X10_takeItem_12, g_X10_takeItem_15, g_X10_takeItem_16, g_X10_takeItem_19, g_X10_takeItem_20, g_X10_takeItem_21, g_X10_takeItem_24, g_X10_takeItem_25, g_X10_takeItem_28, g_X10_takeItem_29, g_X10_takeItem_32, g_X10_takeItem_34, g_X10_takeItem_36, g_X10_takeItem_39, g_X10_takeItem_40, g_X10_takeItem_43, g_X10_takeItem_46, g_X10_takeItem_47, g_X10_takeItem_48, g_X10_takeItem_49, g_X10_takeItem_51, g_X10_takeItem_54, lk_X10_takeItem, XI, Nat.reduceAdd, Nat.reduceEqDiff, not_false_eq_true, nI_T1, nI_T0, true_and, and_true, WC, WV, WU, m1_ge]
    exact hn rfl
  | some f =>
    rw [e1] at hn hs
    dsimp only at hn hs
    simp (disch := omega) only [reduceCtorEq, not_false_eq_true, if_true, g_X10_takeItem_15, g_X10_takeItem_16, g_X10_takeItem_19, g_X10_takeItem_20, g_X10_takeItem_21, lk_X10_takeItem, XI, Nat.reduceAdd, Nat.reduceEqDiff, not_false_eq_true, nI_T1, nI_T0, true_and, and_true, WC, WV, WU, c_unit P n s I J R _ _ hT h1.1, oI_ge hu]
    cases e2 : (pUn tp (pF tp p).1).2 with
    | none =>
      rw [e2] at hn
      simp (disch := omega) only [not_true_eq_false, if_false, g_X10_takeItem_24, g_X10_takeItem_25, g_X10_takeItem_28, g_X10_takeItem_29, g_X10_takeItem_32, g_X10_takeItem_34, g_X10_takeItem_36, g_X10_takeItem_39, g_X10_takeItem_40, g_X10_takeItem_43, g_X10_takeItem_46, g_X10_takeItem_47, g_X10_takeItem_48, g_X10_takeItem_49, g_X10_takeItem_51, g_X10_takeItem_54, lk_X10_takeItem, XI, Nat.reduceAdd, Nat.reduceEqDiff, not_false_eq_true, nI_T1, nI_T0, true_and, and_true, WC, WV, WU, m1_ge]
      exact hn rfl
    | some k =>
      rw [e2] at hn hs
      dsimp only at hn hs
      simp (disch := omega) only [reduceCtorEq, not_false_eq_true, if_true, g_X10_takeItem_28, g_X10_takeItem_29, g_X10_takeItem_32, g_X10_takeItem_34, g_X10_takeItem_36, lk_X10_takeItem, XI, Nat.reduceAdd, Nat.reduceEqDiff, not_false_eq_true, nI_T1, nI_T0, true_and, and_true, WC, WV, WU, c_source P n s I J R _ _ hT h2.1, oI_ge hso]
      cases e3 : (pSo tp (pUn tp (pF tp p).1).1).2 with
      | none =>
        rw [e3] at hn
        simp (disch := omega) only [not_true_eq_false, if_false, g_X10_takeItem_39, g_X10_takeItem_40, g_X10_takeItem_43, g_X10_takeItem_46, g_X10_takeItem_47, g_X10_takeItem_48, g_X10_takeItem_49, g_X10_takeItem_51, g_X10_takeItem_54, lk_X10_takeItem, XI, Nat.reduceAdd, Nat.reduceEqDiff, not_false_eq_true, nI_T1, nI_T0, true_and, and_true, WC, WV, WU]
        exact hn rfl
      | some so =>
        rw [e3] at hs
        dsimp only at hs
        simp (disch := omega) only [reduceCtorEq, not_false_eq_true, if_true, g_X10_takeItem_43, g_X10_takeItem_46, g_X10_takeItem_47, g_X10_takeItem_48, g_X10_takeItem_49, g_X10_takeItem_51, g_X10_takeItem_54, lk_X10_takeItem, XI, Nat.reduceAdd, Nat.reduceEqDiff, not_false_eq_true, nI_T1, nI_T0, true_and, and_true, WC, WV, WU, sk_new, sk_nx, em_X2_init, K_X2_init, lk_X2_init, sk_pool kn, sk_up_p kn, vu_eq, vu_vu, aL_s, oI_s]
        refine hs _ _ rfl ⟨_, ⟨by omega, kn, vu_eq _ _ _⟩, rfl, rfl, rfl⟩ (fun i hi => vu_ne _ _ (by omega))
theorem c_items_l (hT : TC I tp) {i : Nat} (hi0 : ¬ i = 0) : ∀ (m k p : Nat) (acc : List It) (P : Nat → Option rs_C) (n s : Nat) (U : Nat → Value) (z3 : Option Value), k + (m + 1) = 6 → acc.length = k → 84 ≤ n → cP P n i (16, 6, U) → (∀ j, j < 6 → acc[j]? = none → U j = .null) → (∀ j t, j < 6 → acc[j]? = some t → ∃ x, U j = .ref x ∧ cIt P n x t) → p ≤ tp.length →
    (∀ P' n' s', (pIts tp (m + 1) p acc).2 = none → n ≤ n' → n' ≤ n + (m + 1) → s' ≤ s + 3 * (m + 1) → (∀ j, j < n → ¬ j = i → P' j = P j) → Q (sk_w P' n' s' (rs_u2 I 43 2 (nI (pIts tp (m + 1) p acc).1)) J R) (some (.int (nI 0)))) →
    (∀ l P' n' s' U', (pIts tp (m + 1) p acc).2 = some l → n ≤ n' → n' ≤ n + (m + 1) → s' ≤ s + 3 * (m + 1) → cP P' n' i (16, 6, U') → (∀ j, j < 6 → l[j]? = none → U' j = .null) → (∀ j t, j < 6 → l[j]? = some t → ∃ x, U' j = .ref x ∧ cIt P' n' x t) → (∀ j, j < n → ¬ j = i → P' j = P j) → Q (sk_w P' n' s' (rs_u2 I 43 2 (nI (pIts tp (m + 1) p acc).1)) J R) (some (.int (nI 1)))) →
    rs_X (d + 4) yX10_takeItems 23 [some (.ref 43), some (.ref i), some (.int (nI k)), z3] [] (sk_w P n s (rs_u2 I 43 2 (nI p)) J R) Q := by
  intro m
  induction m with
  | zero =>
    intro k p acc P n s U z3 hk hacc h84 hi un us hp hn hs
    rw [pIts_s] at hn hs
    simp (disch := omega) only [g_X10_takeItems_23, g_X10_takeItems_24, lk_X10_takeItems, XI, Nat.reduceAdd, Nat.reduceEqDiff, not_false_eq_true, nI_T1, nI_T0, true_and, and_true, WC, WV, WU]
    refine c_item I J R d _ P n s h84 hT hp ?_ ?_
    · intro e
      rw [e] at hn
      simp (disch := omega) only [g_X10_takeItems_27, g_X10_takeItems_28, g_X10_takeItems_29, g_X10_takeItems_32, g_X10_takeItems_33, lk_X10_takeItems, XI, Nat.reduceAdd, Nat.reduceEqDiff, not_false_eq_true, nI_T1, nI_T0, true_and, and_true, WC, WV, WU]
      exact hn P n s rfl (Nat.le_refl n) (by omega) (by omega) (fun _ _ _ => rfl)
    · intro t P1 e ct hP1
      rw [e] at hs
      dsimp only at hs
      rw [if_pos rfl] at hs
      have hi1 := cP_m hP1 (show n ≤ n + 1 by omega) hi
      obtain ⟨Vt, hct, -⟩ := id ct
      have hoa : rs_oa (sk_w P1 (n + 1) (s + 3) (rs_u2 I 43 2 (nI (pIt tp p).1)) J R) 16 (.ref n) := oa_rf (o := some n) (fun x hx => by cases hx; exact ⟨_, by rw [sk_pool hct.2.1, hct.2.2], rfl⟩)
      simp (disch := omega) only [g_X10_takeItems_27, g_X10_takeItems_28, g_X10_takeItems_29, g_X10_takeItems_32, g_X10_takeItems_33, g_X10_takeItems_34, g_X10_takeItems_35, g_X10_takeItems_36, g_X10_takeItems_37, g_X10_takeItems_38, g_X10_takeItems_41, lk_X10_takeItems, XI, Nat.reduceAdd, Nat.reduceEqDiff, not_false_eq_true, nI_T1, nI_T0, true_and, and_true, WC, WV, WU, sk_pool hi1.2.1, sk_up_p hi1.2.1, hi1.2.2, hi0, not_false_eq_true, hoa, nI_cl, rs_in_t, nI_addS]
      rw [g_X10_takeItems_2]
      simp (disch := omega) only [g_X10_takeItems_3, g_X10_takeItems_4, g_X10_takeItems_5, lk_X10_takeItems, g_X10_takeItems_44, g_X10_takeItems_45, lk_X10_takeItems, XI, Nat.reduceAdd, Nat.reduceEqDiff, not_false_eq_true, nI_T1, nI_T0, true_and, and_true, WC, WV, WU, sk_pool hi1.2.1, vu_eq, nI_leS]
      rw [if_pos (by omega)]
      have hl2 : (acc ++ [t]).length = k + 1 := by rw [List.length_append, List.length_singleton, hacc]
      refine hs _ _ _ _ (va_up U k (.ref n)) rfl (by omega) (by omega) (by omega) ⟨hi1.1, hi1.2.1, vu_eq _ _ _⟩ ?_ ?_ (fun j hj hji => by rw [vu_ne _ _ hji]; exact hP1 j hj)
      · intro j hj ej
        have := List.getElem?_eq_none_iff.mp ej
        omega
      · intro j t2 hj ej
        by_cases e4 : j < k
        · rw [List.getElem?_append_left (by omega)] at ej
          obtain ⟨x, hx, cx⟩ := us j t2 hj ej
          rw [vu_ne _ _ (by omega)]
          refine ⟨x, hx, ?_⟩
          obtain ⟨V2, c1, c2⟩ := cIt_m hP1 (show n ≤ n + 1 by omega) cx
          exact ⟨V2, cP_k hi1.2.2 _ (show ¬ 1 = 16 by decide) c1, c2⟩
        · have := (List.getElem?_eq_some_iff.mp ej).1
          have e5 : j = k := by omega
          subst e5
          rw [List.getElem?_append_right (by omega), show j - acc.length = 0 by omega] at ej
          cases ej
          rw [vu_eq]
          refine ⟨n, rfl, ?_⟩
          obtain ⟨V2, c1, c2⟩ := ct
          exact ⟨V2, cP_k hi1.2.2 _ (show ¬ 1 = 16 by decide) c1, c2⟩
  | succ m ih =>
    intro k p acc P n s U z3 hk hacc h84 hi un us hp hn hs
    rw [pIts_s] at hn hs
    simp (disch := omega) only [g_X10_takeItems_23, g_X10_takeItems_24, lk_X10_takeItems, XI, Nat.reduceAdd, Nat.reduceEqDiff, not_false_eq_true, nI_T1, nI_T0, true_and, and_true, WC, WV, WU]
    have hpi := pIt_le (tp := tp) hp
    refine c_item I J R d _ P n s h84 hT hp ?_ ?_
    · intro e
      rw [e] at hn
      simp (disch := omega) only [g_X10_takeItems_27, g_X10_takeItems_28, g_X10_takeItems_29, g_X10_takeItems_32, g_X10_takeItems_33, lk_X10_takeItems, XI, Nat.reduceAdd, Nat.reduceEqDiff, not_false_eq_true, nI_T1, nI_T0, true_and, and_true, WC, WV, WU]
      exact hn P n s rfl (Nat.le_refl n) (by omega) (by omega) (fun _ _ _ => rfl)
    · intro t P1 e ct hP1
      rw [e] at hs hn
      dsimp only at hs hn
      rw [if_neg (by omega)] at hs hn
      have hi1 := cP_m hP1 (show n ≤ n + 1 by omega) hi
      obtain ⟨Vt, hct, -⟩ := id ct
      have hoa : rs_oa (sk_w P1 (n + 1) (s + 3) (rs_u2 I 43 2 (nI (pIt tp p).1)) J R) 16 (.ref n) := oa_rf (o := some n) (fun x hx => by cases hx; exact ⟨_, by rw [sk_pool hct.2.1, hct.2.2], rfl⟩)
      have hl2 : (acc ++ [t]).length = k + 1 := by rw [List.length_append, List.length_singleton, hacc]
      have hi2 : cP (va_up P1 i (some (16, 6, va_up U k (.ref n)))) (n + 1) i (16, 6, va_up U k (.ref n)) := ⟨hi1.1, hi1.2.1, vu_eq _ _ _⟩
      have un2 : ∀ j, j < 6 → (acc ++ [t])[j]? = none → va_up U k (.ref n) j = .null := by
        intro j hj ej
        have h5 := List.getElem?_eq_none_iff.mp ej
        rw [vu_ne _ _ (by omega)]
        exact un j hj (List.getElem?_eq_none (by omega))
      have us2 : ∀ j t2, j < 6 → (acc ++ [t])[j]? = some t2 → ∃ x, va_up U k (.ref n) j = .ref x ∧ cIt (va_up P1 i (some (16, 6, va_up U k (.ref n)))) (n + 1) x t2 := by
        intro j t2 hj ej
        by_cases e4 : j < k
        · rw [List.getElem?_append_left (by omega)] at ej
          obtain ⟨x, hx, cx⟩ := us j t2 hj ej
          rw [vu_ne _ _ (by omega)]
          refine ⟨x, hx, ?_⟩
          obtain ⟨V2, c1, c2⟩ := cIt_m hP1 (show n ≤ n + 1 by omega) cx
          exact ⟨V2, cP_k hi1.2.2 _ (show ¬ 1 = 16 by decide) c1, c2⟩
        · have := (List.getElem?_eq_some_iff.mp ej).1
          have e5 : j = k := by omega
          subst e5
          rw [List.getElem?_append_right (by omega), show j - acc.length = 0 by omega] at ej
          cases ej
          rw [vu_eq]
          refine ⟨n, rfl, ?_⟩
          obtain ⟨V2, c1, c2⟩ := ct
          exact ⟨V2, cP_k hi1.2.2 _ (show ¬ 1 = 16 by decide) c1, c2⟩
      have hP2 : ∀ j, j < n → ¬ j = i → va_up P1 i (some (16, 6, va_up U k (.ref n))) j = P j := fun j hj hji => by rw [vu_ne _ _ hji]; exact hP1 j hj
      simp (disch := omega) only [g_X10_takeItems_27, g_X10_takeItems_28, g_X10_takeItems_29, g_X10_takeItems_32, g_X10_takeItems_33, g_X10_takeItems_34, g_X10_takeItems_35, g_X10_takeItems_36, g_X10_takeItems_37, g_X10_takeItems_38, g_X10_takeItems_41, lk_X10_takeItems, XI, Nat.reduceAdd, Nat.reduceEqDiff, not_false_eq_true, nI_T1, nI_T0, true_and, and_true, WC, WV, WU, sk_pool hi1.2.1, sk_up_p hi1.2.1, hi1.2.2, hi0, not_false_eq_true, hoa, nI_cl, rs_in_t, nI_addS]
      rw [g_X10_takeItems_2]
      simp (disch := omega) only [g_X10_takeItems_3, g_X10_takeItems_4, g_X10_takeItems_5, g_X10_takeItems_8, g_X10_takeItems_9, g_X10_takeItems_12, g_X10_takeItems_13, g_X10_takeItems_15, g_X10_takeItems_18, lk_X10_takeItems, XI, Nat.reduceAdd, Nat.reduceEqDiff, not_false_eq_true, nI_T1, nI_T0, true_and, and_true, WC, WV, WU, sk_pool hi1.2.1, vu_eq, nI_leS, nI_le0S, c_take _ _ _ I J R _ _ hT (show 44 ≤ 127 by decide) hpi.1, rs_b_0]
      rw [if_neg (by omega)]
      by_cases c : tp[(pIt tp p).1]? = some 44
      · rw [if_pos c] at hs hn
        simp only [c, not_true_eq_false, not_false_eq_true, if_true, if_false]
        refine ih (k + 1) ((pIt tp p).1 + 1) (acc ++ [t]) _ (n + 1) (s + 3) _ _ (by omega) hl2 (by omega) hi2 un2 us2 (lt_of_get c) ?_ ?_
        · intro P' n' s' e2 b1 b2 b3 b4
          exact hn P' n' s' e2 (by omega) (by omega) (by omega) (fun j hj hji => by rw [b4 j (by omega) hji]; exact hP2 j hj hji)
        · intro l P' n' s' U' e2 b1 b2 b3 b4 b5 b6 b7
          exact hs l P' n' s' U' e2 (by omega) (by omega) (by omega) b4 b5 b6 (fun j hj hji => by rw [b7 j (by omega) hji]; exact hP2 j hj hji)
      · rw [if_neg c] at hs hn
        simp (disch := omega) only [c, not_true_eq_false, not_false_eq_true, if_true, if_false, g_X10_takeItems_21, g_X10_takeItems_22, lk_X10_takeItems, XI, Nat.reduceAdd, Nat.reduceEqDiff, not_false_eq_true, nI_T1, nI_T0, true_and, and_true, WC, WV, WU]
        exact hs _ _ _ _ _ rfl (by omega) (by omega) (by omega) hi2 un2 us2 hP2
theorem c_recipe (P : Nat → Option rs_C) (n s : Nat) (h84 : 84 ≤ n) (hT : TC I tp)
    (hn : ∀ P' n' s', (pRc tp).2 = none → n ≤ n' → n' ≤ n + 10 → s' ≤ s + 40 → (∀ j, j < n → P' j = P j) → Q (sk_w P' n' s' (rs_u2 I 43 2 (nI (pRc tp).1)) J R) (some .null))
    (hs : ∀ r Z P' n' s' x, (pRc tp).2 = some (r, Z) → n ≤ n' → n' ≤ n + 10 → s' ≤ s + 40 → cRc P' n' x r Z → (∀ j, j < n → P' j = P j) → Q (sk_w P' n' s' (rs_u2 I 43 2 (nI (pRc tp).1)) J R) (some (.ref x))) : rs_XM (d + 5) yX10_takeRecipe [.ref 43] (sk_w P n s I J R) Q := by
  have hb : ∀ v, pB tp 48 55 0 = some v → v < 2147483648 := fun v e => by have := pB_s e; omega
  rw [em_X10_takeRecipe]
  unfold pRc at hn hs
  simp (disch := omega) only [g_X10_takeRecipe_0, g_X10_takeRecipe_1, g_X10_takeRecipe_2, g_X10_takeRecipe_5, g_X10_takeRecipe_6, g_X10_takeRecipe_8, g_X10_takeRecipe_10, g_X10_takeRecipe_13, g_X10_takeRecipe_14, g_X10_takeRecipe_15, lk_X10_takeRecipe, XI, Nat.reduceAdd, Nat.reduceEqDiff, not_false_eq_true, nI_T1, nI_T0, true_and, and_true, WC, WV, WU, c_between P n s I J R _ _ hT (show 48 ≤ 55 by decide) (show 55 ≤ 127 by decide) (Nat.zero_le _), oI_lt hb]
  cases e1 : pB tp 48 55 0 with
  | none =>
    rw [e1] at hn
    simp (disch := omega) only [stp_n, if_true, g_X10_takeRecipe_27, g_X10_takeRecipe_28, lk_X10_takeRecipe, XI, Nat.reduceAdd, Nat.reduceEqDiff, not_false_eq_true, nI_T1, nI_T0, true_and, and_true, WC, WV, WU]
    exact hn P n s rfl (Nat.le_refl n) (by omega) (by omega) (fun _ _ => rfl)
  | some r =>
    have a1 := pB_s e1
    rw [e1] at hn hs
    dsimp only at hn hs
    simp (disch := omega) only [stp_s, reduceCtorEq, if_false, oI_s, g_X10_takeRecipe_18, g_X10_takeRecipe_19, g_X10_takeRecipe_21, g_X10_takeRecipe_24, lk_X10_takeRecipe, XI, Nat.reduceAdd, Nat.reduceEqDiff, not_false_eq_true, nI_T1, nI_T0, true_and, and_true, WC, WV, WU, c_take P n s I J R _ _ hT (show 58 ≤ 127 by decide) (show 0 + 1 ≤ tp.length by omega), rs_b_0, Nat.zero_add]
    by_cases c1 : tp[1]? = some 58
    · rw [if_pos c1] at hn hs
      have hp2 : 2 ≤ tp.length := lt_of_get c1
      simp (disch := omega) only [c1, not_true_eq_false, not_false_eq_true, if_true, if_false, g_X10_takeRecipe_29, g_X10_takeRecipe_31, g_X10_takeRecipe_34, g_X10_takeRecipe_35, g_X10_takeRecipe_36, g_X10_takeRecipe_37, lk_X10_takeRecipe, XI, Nat.reduceAdd, Nat.reduceEqDiff, not_false_eq_true, nI_T1, nI_T0, true_and, and_true, WC, WV, WU, sk_new, sk_nx, nI_cl, nI_lt0S, Nat.reduceLeDiff]
      rw [em_X10_takeItems]
      simp (disch := omega) only [g_X10_takeItems_0, g_X10_takeItems_1, lk_X10_takeItems, XI, Nat.reduceAdd, Nat.reduceEqDiff, not_false_eq_true, nI_T1, nI_T0, true_and, and_true, WC, WV, WU]
      rw [g_X10_takeItems_2]
      have kn : sk_kn n = none := sk_kn_ge n h84
      simp (disch := omega) only [g_X10_takeItems_3, g_X10_takeItems_4, g_X10_takeItems_5, g_X10_takeItems_8, g_X10_takeItems_9, lk_X10_takeItems, XI, Nat.reduceAdd, Nat.reduceEqDiff, not_false_eq_true, nI_T1, nI_T0, true_and, and_true, WC, WV, WU, sk_pool kn, vu_eq, nI_leS, nI_00, Nat.le_refl, if_true, Nat.reduceLeDiff, if_false, show (nI 0 ≤ 0) ↔ True from ⟨fun _ => trivial, fun _ => by decide⟩]
      have hits := pIts_le (tp := tp) 6 2 [] hp2 (by decide) (fun k t e => by cases e)
      refine c_items_l I J R d _ hT (show ¬ n = 0 by omega) 5 0 2 [] _ (n + 1) (s + 6) (fun _ => .null) _ rfl rfl (by omega) ⟨by omega, kn, vu_eq _ _ _⟩ (fun _ _ _ => rfl) (fun j t _ e => by cases e) hp2 ?_ ?_
      · intro P1 n1 s1 e2 b1 b2 b3 b4
        have e2 : (pIts tp 6 2 []).2 = none := e2
        rw [e2] at hn
        simp (disch := omega) only [g_X10_takeRecipe_40, g_X10_takeRecipe_43, g_X10_takeRecipe_44, g_X10_takeRecipe_46, g_X10_takeRecipe_49, g_X10_takeRecipe_52, g_X10_takeRecipe_53, lk_X10_takeRecipe, XI, Nat.reduceAdd, Nat.reduceEqDiff, not_false_eq_true, nI_T1, nI_T0, true_and, and_true, WC, WV, WU, nI_00, if_true]
        refine hn P1 n1 s1 rfl (by omega) (by omega) (by omega) (fun j hj => ?_)
        rw [b4 j (by omega) (by omega), vu_ne _ _ (by omega)]
      · intro l P1 n1 s1 U1 e2 b1 b2 b3 b4 b5 b6 b7
        have e2 : (pIts tp 6 2 []).2 = some l := e2
        have hPj : ∀ j, j < n → P1 j = P j := fun j hj => by rw [b7 j (by omega) (by omega), vu_ne _ _ (by omega)]
        rw [e2] at hn hs
        dsimp only at hn hs
        simp (disch := omega) only [g_X10_takeRecipe_40, g_X10_takeRecipe_43, g_X10_takeRecipe_44, g_X10_takeRecipe_46, g_X10_takeRecipe_49, lk_X10_takeRecipe, XI, Nat.reduceAdd, Nat.reduceEqDiff, not_false_eq_true, nI_T1, nI_T0, true_and, and_true, WC, WV, WU, show (nI 1 = 0) ↔ False from ⟨fun z => absurd z (by decide), fun z => z.elim⟩, if_false, c_take P1 n1 s1 I J R _ _ hT (show 61 ≤ 127 by decide) hits.1, rs_b_0]
        by_cases c2 : tp[(pIts tp 6 2 []).1]? = some 61
        · rw [if_pos c2] at hn hs
          have hp3 : (pIts tp 6 2 []).1 + 1 ≤ tp.length := lt_of_get c2
          have h1 := pF_le (tp := tp) (p := (pIts tp 6 2 []).1 + 1) hp3
          have h2 := pUn_le (tp := tp) h1.1
          have ha : ∀ f, (pF tp ((pIts tp 6 2 []).1 + 1)).2 = some f → isF (lw f) := fun f e => (lw_fr (h1.2 f e)).2.1
          have hu : ∀ v, (pUn tp (pF tp ((pIts tp 6 2 []).1 + 1)).1).2 = some v → v < 2147483648 := fun v e => by have := h2.2 v e; omega
          generalize hgp : (pIts tp 6 2 []).1 + 1 = p3 at *
          unfold pAm at hn hs
          simp (disch := omega) only [c2, not_true_eq_false, not_false_eq_true, if_true, if_false, g_X10_takeRecipe_54, g_X10_takeRecipe_55, g_X10_takeRecipe_58, g_X10_takeRecipe_59, g_X10_takeRecipe_60, g_X10_takeRecipe_61, g_X10_takeRecipe_62, lk_X10_takeRecipe, XI, Nat.reduceAdd, Nat.reduceEqDiff, not_false_eq_true, nI_T1, nI_T0, true_and, and_true, WC, WV, WU, hgp, c_amount P1 n1 s1 I J R _ _ hT hp3, lg_cmp_ge, lg_cmp_lt, lN_0, aL_neg ha]
          cases e3 : (pF tp p3).2 with
          | none =>
            rw [e3] at hn
            simp (disch := omega) only [not_true_eq_false, if_false, g_X10_takeRecipe_65, g_X10_takeRecipe_66, g_X10_takeRecipe_69, g_X10_takeRecipe_70, g_X10_takeRecipe_73, g_X10_takeRecipe_75, g_X10_takeRecipe_77, g_X10_takeRecipe_80, g_X10_takeRecipe_81, lk_X10_takeRecipe, XI, Nat.reduceAdd, Nat.reduceEqDiff, not_false_eq_true, nI_T1, nI_T0, true_and, and_true, WC, WV, WU, m1_ge]
            exact hn P1 n1 s1 rfl (by omega) (by omega) (by omega) hPj
          | some f =>
            rw [e3] at hn hs
            dsimp only at hn hs
            simp (disch := omega) only [reduceCtorEq, not_false_eq_true, if_true, g_X10_takeRecipe_69, g_X10_takeRecipe_70, g_X10_takeRecipe_73, g_X10_takeRecipe_75, g_X10_takeRecipe_77, lk_X10_takeRecipe, XI, Nat.reduceAdd, Nat.reduceEqDiff, not_false_eq_true, nI_T1, nI_T0, true_and, and_true, WC, WV, WU, c_unit P1 n1 s1 I J R _ _ hT h1.1, oI_ge hu]
            cases e4 : (pUn tp (pF tp p3).1).2 with
            | none =>
              rw [e4] at hn
              simp (disch := omega) only [not_true_eq_false, if_false, g_X10_takeRecipe_80, g_X10_takeRecipe_81, lk_X10_takeRecipe, XI, Nat.reduceAdd, Nat.reduceEqDiff, not_false_eq_true, nI_T1, nI_T0, true_and, and_true, WC, WV, WU]
              exact hn P1 n1 s1 rfl (by omega) (by omega) (by omega) hPj
            | some k =>
              rw [e4] at hn hs
              dsimp only at hn hs
              generalize hgq : (pUn tp (pF tp p3).1).1 = p4 at *
              have fin : ∀ (pe v : Nat), pe ≤ tp.length → (pEn tp p4).1 = pe → (pe = tp.length → (pEn tp p4).2 = some v) → (¬ pe = tp.length → (pEn tp p4).2 = none) → v < 2147483648 → rs_X (d + 5) yX10_takeRecipe 99 [some (.ref 43), some (.int (nI r)), some (.ref n), some (.long (pkF (lw f))), none, some (.int (nI k)), none] [.int (nI v)] (sk_w P1 n1 s1 (rs_u2 I 43 2 (nI pe)) J R) Q := by
                intro pe v hpe q1 q2 q3 hv
                have kn1 : sk_kn n1 = none := sk_kn_ge n1 (by omega)
                have ht60 := hT.2.2.1
                simp (disch := omega) only [g_X10_takeRecipe_99, g_X10_takeRecipe_101, g_X10_takeRecipe_103, g_X10_takeRecipe_106, g_X10_takeRecipe_107, g_X10_takeRecipe_110, g_X10_takeRecipe_111, g_X10_takeRecipe_114, lk_X10_takeRecipe, XI, Nat.reduceAdd, Nat.reduceEqDiff, not_false_eq_true, nI_T1, nI_T0, true_and, and_true, WC, WV, WU, nI_lt0S, if_false, rs_u2_eq, rs_u2_ne, hT.1, nI_eqS]
                by_cases cp : pe = tp.length
                · rw [q2 cp] at hs
                  dsimp only at hs
                  rw [if_pos cp]
                  simp (disch := omega) only [g_X10_takeRecipe_119, g_X10_takeRecipe_122, g_X10_takeRecipe_123, g_X10_takeRecipe_124, g_X10_takeRecipe_125, g_X10_takeRecipe_126, g_X10_takeRecipe_128, g_X10_takeRecipe_130, g_X10_takeRecipe_133, lk_X10_takeRecipe, XI, Nat.reduceAdd, Nat.reduceEqDiff, not_false_eq_true, nI_T1, nI_T0, true_and, and_true, WC, WV, WU, sk_new, sk_nx, em_X5_init, K_X5_init, lk_X5_init, sk_pool kn1, sk_up_p kn1, vu_eq, vu_vu]
                  have hPn : ∀ j, j < n1 → va_up P1 n1 (some (4, 5, va_up (va_up (va_up (va_up (va_up (fun j => defaultValue (rs_ty 4 j)) 0 (.int (nI r))) 1 (.ref n)) 2 (.long (pkF (lw f)))) 3 (.int (nI k))) 4 (.int (nI v)))) j = P1 j := fun j hj => vu_ne _ _ (by omega)
                  have hs2 := hs r (Rc.mk l (lw f) k v) _ (n1 + 1) (s1 + 5) n1 rfl (by omega) (by omega) (by omega) ⟨_, n, U1, ⟨by omega, kn1, vu_eq _ _ _⟩, cP_m hPn (by omega) b4, rfl, rfl, rfl, rfl, rfl, b5, ?_⟩ (fun j hj => by rw [hPn j (by omega)]; exact hPj j hj)
                  · rw [q1] at hs2
                    exact hs2
                  · intro j t hj et
                    obtain ⟨x, hx, cx⟩ := b6 j t hj et
                    exact ⟨x, hx, cIt_m hPn (by omega) cx⟩
                · rw [q3 cp] at hn
                  dsimp only at hn
                  rw [if_neg cp]
                  simp (disch := omega) only [g_X10_takeRecipe_117, g_X10_takeRecipe_118, lk_X10_takeRecipe, XI, Nat.reduceAdd, Nat.reduceEqDiff, not_false_eq_true, nI_T1, nI_T0, true_and, and_true, WC, WV, WU]
                  have hn2 := hn P1 n1 s1 rfl (by omega) (by omega) (by omega) hPj
                  rw [q1] at hn2
                  exact hn2
              have h5 := pEn_le (tp := tp) h2.1
              simp (disch := omega) only [reduceCtorEq, not_false_eq_true, if_true, oI_s, aL_s, g_X10_takeRecipe_82, g_X10_takeRecipe_83, g_X10_takeRecipe_85, g_X10_takeRecipe_88, lk_X10_takeRecipe, XI, Nat.reduceAdd, Nat.reduceEqDiff, not_false_eq_true, nI_T1, nI_T0, true_and, and_true, WC, WV, WU, c_take P1 n1 s1 I J R _ _ hT (show 64 ≤ 127 by decide) h2.1, rs_b_0]
              by_cases c3 : tp[p4]? = some 64
              · have h6 := pN_le (tp := tp) (p := p4 + 1) (lt_of_get c3)
                have eE : pEn tp p4 = (match (pN tp (p4 + 1)).2 with
                  | none => ((pN tp (p4 + 1)).1, none)
                  | some v => if (pN tp (p4 + 1)).1 = tp.length then ((pN tp (p4 + 1)).1, some v) else ((pN tp (p4 + 1)).1, none)) := by unfold pEn; rw [if_pos c3]; rfl
                simp (disch := omega) only [c3, not_true_eq_false, if_true, if_false, g_X10_takeRecipe_91, g_X10_takeRecipe_92, g_X10_takeRecipe_95, lk_X10_takeRecipe, XI, Nat.reduceAdd, Nat.reduceEqDiff, not_false_eq_true, nI_T1, nI_T0, true_and, and_true, WC, WV, WU, c_number P1 n1 s1 I J R _ _ hT (lt_of_get c3)]
                cases e5 : (pN tp (p4 + 1)).2 with
                | none =>
                  rw [e5] at eE
                  rw [eE] at hn
                  simp (disch := omega) only [g_X10_takeRecipe_99, g_X10_takeRecipe_101, g_X10_takeRecipe_103, g_X10_takeRecipe_106, g_X10_takeRecipe_107, g_X10_takeRecipe_110, g_X10_takeRecipe_111, g_X10_takeRecipe_114, g_X10_takeRecipe_117, g_X10_takeRecipe_118, lk_X10_takeRecipe, XI, Nat.reduceAdd, Nat.reduceEqDiff, not_false_eq_true, nI_T1, nI_T0, true_and, and_true, WC, WV, WU, show oI none = -1 from rfl, m1_lt, if_true]
                  exact hn P1 n1 s1 rfl (by omega) (by omega) (by omega) hPj
                | some v =>
                  rw [e5] at eE
                  dsimp only at eE
                  have hv := h6.2 v e5
                  rw [oI_s]
                  refine fin (pN tp (p4 + 1)).1 v h6.1 ?_ ?_ ?_ (by omega)
                  · rw [eE]; split <;> rfl
                  · intro z; rw [eE, if_pos z]
                  · intro z; rw [eE, if_neg z]
              · have eE : pEn tp p4 = if p4 = tp.length then (p4, some 0) else (p4, none) := by unfold pEn; rw [if_neg c3]
                simp (disch := omega) only [c3, not_false_eq_true, if_true, if_false, g_X10_takeRecipe_98, lk_X10_takeRecipe, XI, Nat.reduceAdd, Nat.reduceEqDiff, not_false_eq_true, nI_T1, nI_T0, true_and, and_true, WC, WV, WU]
                refine fin p4 0 h2.1 ?_ ?_ ?_ (by decide)
                · rw [eE]; split <;> rfl
                · intro z; rw [eE, if_pos z]
                · intro z; rw [eE, if_neg z]
        · rw [if_neg c2] at hn
          simp (disch := omega) only [c2, not_true_eq_false, not_false_eq_true, if_true, if_false, g_X10_takeRecipe_52, g_X10_takeRecipe_53, lk_X10_takeRecipe, XI, Nat.reduceAdd, Nat.reduceEqDiff, not_false_eq_true, nI_T1, nI_T0, true_and, and_true, WC, WV, WU]
          exact hn P1 n1 s1 rfl (by omega) (by omega) (by omega) hPj
    · rw [if_neg c1] at hn
      simp (disch := omega) only [c1, not_true_eq_false, not_false_eq_true, if_true, if_false, g_X10_takeRecipe_27, g_X10_takeRecipe_28, lk_X10_takeRecipe, XI, Nat.reduceAdd, Nat.reduceEqDiff, not_false_eq_true, nI_T1, nI_T0, true_and, and_true, WC, WV, WU]
      exact hn P n s rfl (Nat.le_refl n) (by omega) (by omega) (fun _ _ => rfl)
end
