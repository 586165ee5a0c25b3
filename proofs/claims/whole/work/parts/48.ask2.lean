/-! what lies beyond the class's rows; taken, risk -/
theorem x_out {x : Int32} {a : Nat} (ha : a < 2147483648) (h : ¬ (nI 0 ≤ x ∧ x ≤ nI a)) : x < 0 ∨ (¬ x < 0 ∧ nI (a + 1) ≤ x ∧ ¬ x < nI (a + 1)) := by
  by_cases h0 : x < 0
  · exact Or.inl h0
  · refine Or.inr ⟨h0, ?_⟩
    obtain ⟨n, hn, rfl⟩ := nI_of h0
    have h1 : ¬ n ≤ a := fun z => h ⟨nI_le (Nat.zero_le _) hn, nI_le z ha⟩
    by_cases h2 : a + 1 < 2147483648
    · exact ⟨nI_le (by omega) hn, fun z => by rw [nI_ltS hn h2] at z; omega⟩
    · omega
section
variable {P : Nat → Option rs_C} {b : Nat} (n s : Nat) (I : Nat → Nat → Int32) (J : Nat → Nat → Int64) (R : Nat → Nat → Option Nat) (d : Nat) (Q : rs_H → Option Value → Prop)
theorem g_recipeAt_o {q : Nat} {D : Dt} (h : cSt P b q D) {x : Int32} (hx : ¬ (nI 0 ≤ x ∧ x ≤ nI 7)) : rs_XM d yX7_recipeAt [.ref q, .int x] (sk_w P n s I J R) Q ↔ Q (sk_w P n s I J R) (some .null) := by
  obtain ⟨V, a, c, e, Ua, Uc, Ue, h1, h2, h3, h4, h5, h6, h7, h8, h9, h10, h11, h12, h13⟩ := h
  rw [em_X7_recipeAt]
  rcases x_out (by decide) hx with e | ⟨e1, e2, e3⟩
  · simp (disch := omega) only [K_X7_recipeAt, lk_X7_recipeAt, XI, Nat.reduceAdd, Nat.reduceEqDiff, not_false_eq_true, nI_T1, nI_T0, true_and, and_true, WC, WV, WU, e, if_true]
  · simp (disch := omega) only [K_X7_recipeAt, lk_X7_recipeAt, XI, Nat.reduceAdd, Nat.reduceEqDiff, not_false_eq_true, nI_T1, nI_T0, true_and, and_true, WC, WV, WU, sk_cP n s I J R h1, sk_cP n s I J R h2, h5, e1, e2, if_true, if_false]
theorem g_ingredientAt_o {q : Nat} {D : Dt} (h : cSt P b q D) {x : Int32} (hx : ¬ (nI 0 ≤ x ∧ x ≤ nI 11)) : rs_XM d yX7_ingredientAt [.ref q, .int x] (sk_w P n s I J R) Q ↔ Q (sk_w P n s I J R) (some .null) := by
  obtain ⟨V, a, c, e, Ua, Uc, Ue, h1, h2, h3, h4, h5, h6, h7, h8, h9, h10, h11, h12, h13⟩ := h
  rw [em_X7_ingredientAt]
  rcases x_out (by decide) hx with e | ⟨e1, e2, e3⟩
  · simp (disch := omega) only [K_X7_ingredientAt, lk_X7_ingredientAt, XI, Nat.reduceAdd, Nat.reduceEqDiff, not_false_eq_true, nI_T1, nI_T0, true_and, and_true, WC, WV, WU, e, if_true]
  · simp (disch := omega) only [K_X7_ingredientAt, lk_X7_ingredientAt, XI, Nat.reduceAdd, Nat.reduceEqDiff, not_false_eq_true, nI_T1, nI_T0, true_and, and_true, WC, WV, WU, sk_cP n s I J R h1, sk_cP n s I J R h3, h6, e1, e2, if_true, if_false]
theorem g_substitutionAt_o {q : Nat} {D : Dt} (h : cSt P b q D) (hD : D.ok) {x : Int32} (hx : ¬ ∃ k, k < D.sb.length ∧ x = nI k) : rs_XM d yX7_substitutionAt [.ref q, .int x] (sk_w P n s I J R) Q ↔ Q (sk_w P n s I J R) (some .null) := by
  by_cases hi : nI 0 ≤ x ∧ x ≤ nI 5
  · obtain ⟨k, -, hk, rfl⟩ := (nI_within (by decide) (by decide)).mp hi
    exact g_substitutionAt_n n s I J R h (show k < 6 by omega) (List.getElem?_eq_none_iff.mpr (Nat.le_of_not_lt (fun z => hx ⟨k, z, rfl⟩))) d Q
  · obtain ⟨V, a, c, e, Ua, Uc, Ue, h1, h2, h3, h4, h5, h6, h7, h8, h9, h10, h11, h12, h13⟩ := h
    rw [em_X7_substitutionAt]
    rcases x_out (by decide) hi with e | ⟨e1, e2, e3⟩
    · simp (disch := omega) only [K_X7_substitutionAt, lk_X7_substitutionAt, XI, Nat.reduceAdd, Nat.reduceEqDiff, not_false_eq_true, nI_T1, nI_T0, true_and, and_true, WC, WV, WU, e, if_true]
    · simp (disch := omega) only [K_X7_substitutionAt, lk_X7_substitutionAt, XI, Nat.reduceAdd, Nat.reduceEqDiff, not_false_eq_true, nI_T1, nI_T0, true_and, and_true, WC, WV, WU, sk_cP n s I J R h1, sk_cP n s I J R h4, h7, e1, e2, if_true, if_false]
end
theorem in_len {len : Nat} (hl : len < 2147483648) (x : Int32) : (nI 0 ≤ x ∧ x ≤ nI len - nI 1) ↔ ∃ k, k < len ∧ x = nI k := by
  cases len with
  | zero =>
    have e : nI 0 - nI 1 = -1 := by decide
    rw [e]
    constructor
    · rintro ⟨h1, h2⟩
      exact absurd (Int32.le_trans h1 h2) (by decide)
    · rintro ⟨k, h, _⟩
      omega
  | succ m =>
    rw [nI_subS (by omega), Nat.add_sub_cancel, nI_within (by decide) (by omega)]
    exact ⟨fun ⟨k, _, h, e⟩ => ⟨k, by omega, e⟩, fun ⟨k, h, e⟩ => ⟨k, by omega, by omega, e⟩⟩
theorem sbo1_ok2 {D : Dt} (hD : D.ok) {t : Sb} (ht : t.ok) {k : Nat} {S T : Nat → Nat × Nat} (hS : stOk S) {A : Nat} (hT : ∀ j, isF (T j)) : ∀ j, isF ((sbo1 D k t S T A).2.2.1 j) := by
  intro j
  unfold sbo1
  split
  · cases hw : fr ((S t.x).1 - kep D t * (S t.x).2) (S t.x).2 with
    | none => exact hT j
    | some w =>
      have hwF := fr_isF (hS t.x ht.1).2.1 hw
      have hu : isF (upS T k w j) := by
        unfold upS
        split
        · exact hwF
        · exact hT j
      dsimp only
      cases adO (S t.y) (omul (some w) (fr t.up t.dn)) with
      | none => exact hu
      | some p => exact hu
  · exact hT j
theorem sboL_ok2 {D : Dt} (hD : D.ok) : ∀ (m k : Nat) (S T : Nat → Nat × Nat) (A : Nat), k + m = 6 → stOk S → A < 64 → (∀ j, isF (T j)) → (∀ j, isF ((sboL D (D.sb.drop k) k S T A).2.2.1 j)) ∧ (sboL D (D.sb.drop k) k S T A).2.2.2 < 64 := by
  intro m
  induction m with
  | zero =>
    intro k S T A hk hS hA hT
    have e : D.sb.drop k = [] := List.drop_eq_nil_iff.mpr (by have := hD.2.2.1; omega)
    rw [e, sboL_n]
    exact ⟨hT, hA⟩
  | succ m ih =>
    intro k S T A hk hS hA hT
    cases hs : D.sb[k]? with
    | none =>
      have e : D.sb.drop k = [] := List.drop_eq_nil_iff.mpr (List.getElem?_eq_none_iff.mp hs)
      rw [e, sboL_n]
      exact ⟨hT, hA⟩
    | some t =>
      have e : D.sb.drop k = t :: D.sb.drop (k + 1) := by
        obtain ⟨h1, h2⟩ := List.getElem?_eq_some_iff.mp hs
        rw [← h2]
        exact List.drop_eq_getElem_cons h1
      rw [e, sboL_c]
      have ok := sbo1_ok hD (hD.2.2.2.1 k t hs) (show k < 6 by omega) (T := T) hS hA
      have ok2 := sbo1_ok2 hD (hD.2.2.2.1 k t hs) (k := k) hS (A := A) hT
      split
      · exact ih (k + 1) _ _ _ (by omega) ok.1 ok.2.1 ok2
      · exact ⟨ok2, ok.2.1⟩
theorem takD_ok {D : Dt} (hD : D.ok) : (∀ j, isF (takD D j)) ∧ appD D < 64 := sboL_ok2 hD 6 0 _ S00 0 rfl (befD_ok hD) (by decide) (fun _ => isF_01)
/-- what is contained, and in traces, below an ingredient -/
def rk (D : Dt) : Nat → Nat × Nat
  | 0 => (0, 0)
  | k + 1 => if 0 < (aftD D k).1 then ((rk D k).1 ||| (D.ig k).con, (rk D k).2 ||| (D.ig k).tra) else rk D k
theorem rk_s (D : Dt) (k : Nat) : rk D (k + 1) = if 0 < (aftD D k).1 then ((rk D k).1 ||| (D.ig k).con, (rk D k).2 ||| (D.ig k).tra) else rk D k := rfl
theorem rk_le {D : Dt} (hD : D.ok) : ∀ k, k ≤ 12 → (rk D k).1 < 256 ∧ (rk D k).2 < 256
  | 0, _ => ⟨show 0 < 256 by decide, show 0 < 256 by decide⟩
  | k + 1, h => by
    have ih := rk_le hD k (by omega)
    have hg := hD.2.1 k (by omega)
    rw [rk_s]
    split
    · exact ⟨Nat.or_lt_two_pow (n := 8) ih.1 (by have := hg.2.2.1; omega), Nat.or_lt_two_pow (n := 8) ih.2 (by have := hg.2.2.2.1; omega)⟩
    · exact ih
section
variable {D : Dt} {Ds : Option Dt} {L : List Dt} {tp : List Nat} {rea : Int32}
theorem b_applied (hS : SOk D Ds L tp) (x0 x1 : Int32) : BC yX11_applied yX12_applied [.int x0, .int x1] D Ds L tp rea := by
  have hl := hS.1.2.2.1
  by_cases c0 : ∃ k, k < D.sb.length ∧ x0 = nI k
  · obtain ⟨k, hk, rfl⟩ := c0
    have hk6 : k < 6 := by omega
    have hs : D.sb[k]? = some D.sb[k] := List.getElem?_eq_getElem hk
    have hin : nI 0 ≤ nI k ∧ nI k ≤ nI D.sb.length - nI 1 := (in_len (by omega) (nI k)).mpr ⟨k, hk, rfl⟩
    have e408 : ∀ I : Nat → Nat → Int32, mDt (I 62) D → I 62 408 = nI D.sb.length := fun I h => h.2.2.1
    by_cases c1 : nI 0 ≤ x1 ∧ x1 ≤ nI 2
    · obtain ⟨b, -, hb, rfl⟩ := (nI_within (by decide) (by decide)).mp c1
      have hT := (takD_ok hS.1).1 k
      have hA := (takD_ok hS.1).2
      refine BC_plan hS (.long (if whyD D = 0 then (if b = 0 then lN (if (appD D).testBit k = true then 1 else 0) else lN (if b = 1 then (takD D k).1 else (takD D k).2)) else (-9223372036854775808))) (Or.inr ⟨_, rfl⟩) (fun d P n s I J R Q h hQ => ?_) (fun d P n s I J R Q h hQ => ?_)
      · obtain ⟨q, hR, hq⟩ := h.2.1
        obtain ⟨y, hy, cy⟩ := g_substitutionAt_s hq hk6 hs
        rw [em_X11_applied]
        simp (disch := omega) only [g_X11_applied_0, g_X11_applied_1, g_X11_applied_4, g_X11_applied_5, g_X11_applied_8, g_X11_applied_11, g_X11_applied_12, g_X11_applied_13, g_X11_applied_14, g_X11_applied_17, g_X11_applied_20, g_X11_applied_23, g_X11_applied_24, g_X11_applied_25, lk_X11_applied, XI, Nat.reduceAdd, Nat.reduceEqDiff, not_false_eq_true, nI_T1, nI_T0, true_and, and_true, WC, WV, WU, rs_b_0, rs_b_ok2, true_or, or_true, Classical.not_not, not_true_eq_false, if_true, if_false, reduceCtorEq, s_X11_isIngredient, s_X11_isRecipe, s_X11_isWithin, s_X11_isPart, c1, hR, va_rf, k_St P n s _ _ R hq, cy]
        refine c_findPlan P n s I J R (d + 36) _ hS.1 h ?_
        intro I' J' h' f1 f2 hv
        have hQ' := hQ I' J' h' f1 f2
        by_cases hw : ¬ whyD D = 0
        · rw [if_neg hw] at hQ'
          simp (disch := omega) only [g_X11_applied_28, g_X11_applied_31, g_X11_applied_34, lk_X11_applied, XI, Nat.reduceAdd, Nat.reduceEqDiff, not_false_eq_true, nI_T1, nI_T0, true_and, and_true, WC, WV, WU, rs_b_0, rs_b_ok2, true_or, or_true, Classical.not_not, not_true_eq_false, if_true, if_false, reduceCtorEq, hw]
          exact hQ'
        have hw := Classical.not_not.mp hw
        obtain ⟨b47, b49, b53, b45⟩ := hv hw
        rw [if_pos hw] at hQ'
        by_cases e : b = 0
        · subst e
          rw [if_pos rfl] at hQ'
          simp (disch := omega) only [g_X11_applied_28, g_X11_applied_31, g_X11_applied_34, g_X11_applied_35, g_X11_applied_36, g_X11_applied_39, g_X11_applied_40, g_X11_applied_43, g_X11_applied_46, g_X11_applied_47, g_X11_applied_50, g_X11_applied_53, g_X11_applied_54, g_X11_applied_57, g_X11_applied_58, lk_X11_applied, K_X3_appliedSet, lk_X3_appliedSet, XI, Nat.reduceAdd, Nat.reduceEqDiff, not_false_eq_true, nI_T1, nI_T0, true_and, and_true, WC, WV, WU, rs_b_0, rs_b_ok2, true_or, or_true, Classical.not_not, not_true_eq_false, if_true, if_false, reduceCtorEq, hw, nI_00, em_X3_appliedSet, b45, s_X11_isSet, rs_isK_s]
          by_cases e2 : (appD D).testBit k = true
          · rw [if_pos e2] at hQ'
            simp only [e2, if_true, not_true_eq_false, if_false]
            exact hQ'
          · rw [if_neg e2] at hQ'
            simp only [e2, if_true, not_true_eq_false, if_false, Bool.false_eq_true, not_false_eq_true]
            exact hQ'
        · rw [if_neg e] at hQ'
          simp (disch := omega) only [g_X11_applied_28, g_X11_applied_31, g_X11_applied_34, g_X11_applied_35, g_X11_applied_36, lk_X11_applied, g_X11_applied_59, g_X11_applied_60, g_X11_applied_63, g_X11_applied_66, g_X11_applied_67, g_X11_applied_70, g_X11_applied_71, g_X11_applied_72, g_X11_applied_73, g_X11_applied_76, lk_X11_applied, XI, Nat.reduceAdd, Nat.reduceEqDiff, not_false_eq_true, nI_T1, nI_T0, true_and, and_true, WC, WV, WU, rs_b_0, rs_b_ok2, true_or, or_true, Classical.not_not, not_true_eq_false, if_true, if_false, reduceCtorEq, hw, nI_eq0S, e, su_at_52, b53 k hk6, nI_subS, s_X11_partOf _ _ _ hT, nI_eqS]
          by_cases e1 : b = 1
          · rw [if_pos e1] at hQ'
            rw [if_pos (by omega)]
            exact hQ'
          · rw [if_neg e1] at hQ'
            rw [if_neg (by omega)]
            exact hQ'
      · rw [em_X12_applied]
        by_cases hp : D.pl = none
        · have hw : ¬ whyD D = 0 := fun z => whyD_p z hp
          have hQ' := hQ I J (by rw [reaD_n hp]; exact h) (fR_r I) (fR_r J)
          rw [if_neg hw] at hQ'
          simp (disch := omega) only [g_X12_applied_0, g_X12_applied_1, g_X12_applied_2, g_X12_applied_3, g_X12_applied_6, g_X12_applied_9, g_X12_applied_10, g_X12_applied_11, g_X12_applied_12, g_X12_applied_15, g_X12_applied_18, g_X12_applied_19, g_X12_applied_20, g_X12_applied_21, g_X12_applied_24, g_X12_applied_27, g_X12_applied_28, g_X12_applied_31, g_X12_applied_34, g_X12_applied_35, g_X12_applied_38, g_X12_applied_41, g_X12_applied_44, lk_X12_applied, XI, Nat.reduceAdd, Nat.reduceEqDiff, not_false_eq_true, nI_T1, nI_T0, true_and, and_true, WC, WV, WU, rs_b_0, rs_b_ok2, true_or, or_true, Classical.not_not, not_true_eq_false, if_true, if_false, reduceCtorEq, s_X12_isIngredient, s_X12_isNumber, s_X12_in, nI_cl, rs_in_t, e408 I h.1, hin, c1, r_hasPlan _ _ _ _ _ _ _ _ h.1 hS.1, hp]
          exact hQ'
        simp (disch := omega) only [g_X12_applied_0, g_X12_applied_1, g_X12_applied_2, g_X12_applied_3, g_X12_applied_6, g_X12_applied_9, g_X12_applied_10, g_X12_applied_11, g_X12_applied_12, g_X12_applied_15, g_X12_applied_18, g_X12_applied_19, g_X12_applied_20, g_X12_applied_21, g_X12_applied_24, g_X12_applied_27, g_X12_applied_28, g_X12_applied_31, g_X12_applied_34, g_X12_applied_35, lk_X12_applied, XI, Nat.reduceAdd, Nat.reduceEqDiff, not_false_eq_true, nI_T1, nI_T0, true_and, and_true, WC, WV, WU, rs_b_0, rs_b_ok2, true_or, or_true, Classical.not_not, not_true_eq_false, if_true, if_false, reduceCtorEq, s_X12_isIngredient, s_X12_isNumber, s_X12_in, nI_cl, rs_in_t, e408 I h.1, hin, c1, r_hasPlan _ _ _ _ _ _ _ _ h.1 hS.1, hp]
        refine r_isFound P n s I J R (d + 54) _ hS.1 h hp ?_
        intro I' J' h' f1 f2 hv
        have hQ' := hQ I' J' h' f1 f2
        by_cases hw : ¬ whyD D = 0
        · rw [if_neg hw] at hQ'
          simp (disch := omega) only [g_X12_applied_38, g_X12_applied_41, g_X12_applied_44, lk_X12_applied, XI, Nat.reduceAdd, Nat.reduceEqDiff, not_false_eq_true, nI_T1, nI_T0, true_and, and_true, WC, WV, WU, rs_b_0, rs_b_ok2, true_or, or_true, Classical.not_not, not_true_eq_false, if_true, if_false, reduceCtorEq, hw]
          exact hQ'
        have hw := Classical.not_not.mp hw
        obtain ⟨b1, b2, b3, b4⟩ := hv hw
        rw [if_pos hw] at hQ'
        obtain ⟨b41, b42, b43⟩ := b4 k hk
        have hb3 : b = 0 ∨ b = 1 ∨ b = 2 := by omega
        rcases hb3 with e | e | e
        · subst e
          rw [if_pos rfl] at hQ'
          simp (disch := omega) only [g_X12_applied_38, g_X12_applied_41, g_X12_applied_44, g_X12_applied_45, g_X12_applied_46, g_X12_applied_49, g_X12_applied_50, g_X12_applied_53, g_X12_applied_54, g_X12_applied_55, g_X12_applied_58, g_X12_applied_59, g_X12_applied_62, g_X12_applied_63, g_X12_applied_66, g_X12_applied_67, g_X12_applied_68, g_X12_applied_71, g_X12_applied_72, g_X12_applied_75, g_X12_applied_76, g_X12_applied_77, g_X12_applied_80, g_X12_applied_81, g_X12_applied_84, g_X12_applied_85, g_X12_applied_86, lk_X12_applied, XI, Nat.reduceAdd, Nat.reduceEqDiff, not_false_eq_true, nI_T1, nI_T0, true_and, and_true, WC, WV, WU, rs_b_0, rs_b_ok2, true_or, or_true, Classical.not_not, not_true_eq_false, if_true, if_false, reduceCtorEq, hw, nI_00, nI_cl, rs_in_t, b43]
          by_cases e2 : (appD D).testBit k = true
          · rw [if_pos e2] at hQ'
            simp only [e2, if_true, not_true_eq_false, if_false]
            exact hQ'
          · rw [if_neg e2] at hQ'
            simp only [e2, if_true, not_true_eq_false, if_false, Bool.false_eq_true, not_false_eq_true]
            exact hQ'
        · subst e
          rw [if_neg (by decide), if_pos rfl] at hQ'
          simp (disch := omega) only [g_X12_applied_38, g_X12_applied_41, g_X12_applied_44, g_X12_applied_45, g_X12_applied_46, g_X12_applied_49, g_X12_applied_50, g_X12_applied_53, g_X12_applied_54, g_X12_applied_55, g_X12_applied_58, g_X12_applied_59, g_X12_applied_62, g_X12_applied_63, g_X12_applied_66, g_X12_applied_67, g_X12_applied_68, g_X12_applied_71, g_X12_applied_72, g_X12_applied_75, g_X12_applied_76, g_X12_applied_77, g_X12_applied_80, g_X12_applied_81, g_X12_applied_84, g_X12_applied_85, g_X12_applied_86, lk_X12_applied, XI, Nat.reduceAdd, Nat.reduceEqDiff, not_false_eq_true, nI_T1, nI_T0, true_and, and_true, WC, WV, WU, rs_b_0, rs_b_ok2, true_or, or_true, Classical.not_not, not_true_eq_false, if_true, if_false, reduceCtorEq, hw, nI_eq0S, Nat.succ_ne_zero, nI_cl, rs_in_t, b41]
          exact hQ'
        · subst e
          rw [if_neg (by decide), if_neg (by decide)] at hQ'
          simp (disch := omega) only [g_X12_applied_38, g_X12_applied_41, g_X12_applied_44, g_X12_applied_45, g_X12_applied_46, g_X12_applied_49, g_X12_applied_50, g_X12_applied_53, g_X12_applied_54, g_X12_applied_55, g_X12_applied_58, g_X12_applied_59, g_X12_applied_62, g_X12_applied_63, g_X12_applied_66, g_X12_applied_67, g_X12_applied_68, g_X12_applied_71, g_X12_applied_72, g_X12_applied_75, g_X12_applied_76, g_X12_applied_77, g_X12_applied_80, g_X12_applied_81, g_X12_applied_84, g_X12_applied_85, g_X12_applied_86, lk_X12_applied, XI, Nat.reduceAdd, Nat.reduceEqDiff, not_false_eq_true, nI_T1, nI_T0, true_and, and_true, WC, WV, WU, rs_b_0, rs_b_ok2, true_or, or_true, Classical.not_not, not_true_eq_false, if_true, if_false, reduceCtorEq, hw, nI_eq0S, Nat.succ_ne_zero, nI_eqS, nI_cl, rs_in_t, b42]
          exact hQ'
    · refine BC_same hS (.long (-9223372036854775808)) (Or.inr ⟨_, rfl⟩) (fun d P n s I J R Q h hQ => ?_) (fun d P n s I J R Q h hQ => ?_)
      · obtain ⟨q, hR, hq⟩ := h.2.1
        obtain ⟨y, hy, cy⟩ := g_substitutionAt_s hq hk6 hs
        rw [em_X11_applied]
        simp (disch := omega) only [g_X11_applied_0, g_X11_applied_1, g_X11_applied_4, g_X11_applied_5, g_X11_applied_8, g_X11_applied_11, g_X11_applied_12, g_X11_applied_13, g_X11_applied_14, g_X11_applied_17, g_X11_applied_20, g_X11_applied_23, lk_X11_applied, XI, Nat.reduceAdd, Nat.reduceEqDiff, not_false_eq_true, nI_T1, nI_T0, true_and, and_true, WC, WV, WU, rs_b_0, rs_b_ok2, true_or, or_true, Classical.not_not, not_true_eq_false, if_true, if_false, reduceCtorEq, hR, va_rf, k_St P n s _ _ R hq, cy, s_X11_isWithin, c1]
        exact hQ
      · rw [em_X12_applied]
        simp (disch := omega) only [g_X12_applied_0, g_X12_applied_1, g_X12_applied_2, g_X12_applied_3, g_X12_applied_6, g_X12_applied_9, g_X12_applied_10, g_X12_applied_11, g_X12_applied_12, g_X12_applied_15, g_X12_applied_18, g_X12_applied_19, g_X12_applied_20, g_X12_applied_21, g_X12_applied_24, g_X12_applied_27, g_X12_applied_28, g_X12_applied_31, g_X12_applied_34, g_X12_applied_35, g_X12_applied_38, g_X12_applied_41, g_X12_applied_44, lk_X12_applied, XI, Nat.reduceAdd, Nat.reduceEqDiff, not_false_eq_true, nI_T1, nI_T0, true_and, and_true, WC, WV, WU, rs_b_0, rs_b_ok2, true_or, or_true, Classical.not_not, not_true_eq_false, if_true, if_false, reduceCtorEq, nI_cl, rs_in_t, e408 I h.1, hin, c1, s_X12_in]
        exact hQ
  · refine BC_same hS (.long (-9223372036854775808)) (Or.inr ⟨_, rfl⟩) (fun d P n s I J R Q h hQ => ?_) (fun d P n s I J R Q h hQ => ?_)
    · obtain ⟨q, hR, hq⟩ := h.2.1
      rw [em_X11_applied]
      simp (disch := omega) only [g_X11_applied_0, g_X11_applied_1, g_X11_applied_4, g_X11_applied_5, g_X11_applied_8, g_X11_applied_11, g_X11_applied_12, g_X11_applied_13, g_X11_applied_14, g_X11_applied_17, g_X11_applied_20, g_X11_applied_23, lk_X11_applied, XI, Nat.reduceAdd, Nat.reduceEqDiff, not_false_eq_true, nI_T1, nI_T0, true_and, and_true, WC, WV, WU, rs_b_0, rs_b_ok2, true_or, or_true, Classical.not_not, not_true_eq_false, if_true, if_false, reduceCtorEq, hR, va_rf, k_St P n s _ _ R hq, g_substitutionAt_o n s _ _ R _ _ hq hS.1 c0]
      exact hQ
    · have hin : ¬ (nI 0 ≤ x0 ∧ x0 ≤ nI D.sb.length - nI 1) := fun z => c0 ((in_len (by omega) x0).mp z)
      have e408 : I 62 408 = nI D.sb.length := h.1.2.2.1
      rw [em_X12_applied]
      simp (disch := omega) only [g_X12_applied_0, g_X12_applied_1, g_X12_applied_2, g_X12_applied_3, g_X12_applied_6, g_X12_applied_9, g_X12_applied_10, g_X12_applied_11, g_X12_applied_12, g_X12_applied_15, g_X12_applied_18, g_X12_applied_19, g_X12_applied_20, g_X12_applied_21, g_X12_applied_24, g_X12_applied_27, g_X12_applied_28, g_X12_applied_31, g_X12_applied_34, g_X12_applied_35, g_X12_applied_38, g_X12_applied_41, g_X12_applied_44, lk_X12_applied, XI, Nat.reduceAdd, Nat.reduceEqDiff, not_false_eq_true, nI_T1, nI_T0, true_and, and_true, WC, WV, WU, rs_b_0, rs_b_ok2, true_or, or_true, Classical.not_not, not_true_eq_false, if_true, if_false, reduceCtorEq, nI_cl, rs_in_t, e408, hin, s_X12_in]
      exact hQ
theorem X11_risk_l (hD : D.ok) {P : Nat → Option rs_C} {n b q : Nat} (s : Nat) (I : Nat → Nat → Int32) (J : Nat → Nat → Int64) {R : Nat → Nat → Option Nat} (d : Nat) (Q : rs_H → Option Value → Prop) (hq : cSt P b q D) (hR : R 1 0 = some q) (b49 : ∀ i, i < 12 → J 49 i = pkF (aftD D i)) (x0 : Int32) : ∀ (m k : Nat), k + m = 12 → (∀ z5, rs_X (d + 20) yX11_risk 92 [some (.ref 1), some (.int x0), some (.int (nI (rk D 12).1)), some (.int (nI (rk D 12).2)), some (.int (nI 12)), z5] [] (sk_w P n s I J R) Q) →
    ∀ z5, rs_X (d + 20) yX11_risk 28 [some (.ref 1), some (.int x0), some (.int (nI (rk D k).1)), some (.int (nI (rk D k).2)), some (.int (nI k)), z5] [] (sk_w P n s I J R) Q := by
  intro m
  induction m with
  | zero =>
    intro k hk h z5
    have : k = 12 := by omega
    subst this
    rw [g_X11_risk_28]
    simp (disch := omega) only [g_X11_risk_30, g_X11_risk_32, g_X11_risk_35, g_X11_risk_36, g_X11_risk_39, g_X11_risk_41, g_X11_risk_44, g_X11_risk_46, g_X11_risk_48, g_X11_risk_51, g_X11_risk_52, g_X11_risk_55, g_X11_risk_58, g_X11_risk_60, g_X11_risk_63, g_X11_risk_64, g_X11_risk_67, g_X11_risk_70, g_X11_risk_71, g_X11_risk_73, g_X11_risk_76, g_X11_risk_77, g_X11_risk_78, g_X11_risk_79, g_X11_risk_81, g_X11_risk_84, g_X11_risk_85, g_X11_risk_86, g_X11_risk_89, lk_X11_risk, XI, Nat.reduceAdd, Nat.reduceEqDiff, not_false_eq_true, nI_T1, nI_T0, true_and, and_true, WC, WV, WU, nI_leS, Nat.le_refl, if_true]
    exact h _
  | succ m ih =>
    intro k hk h z5
    obtain ⟨x, hx, cx⟩ := g_ingredientAt hq (show k < 12 by omega)
    obtain ⟨V, a', c, Ua, Uc, h1, h2, h3, h4, v0, v1, v2, v3, v4, v5, v6, v7, h5⟩ := id hx
    have hA := aftD_ok hD k (by omega)
    have hg := hD.2.1 k (by omega)
    have hg1 := hg.2.2.1
    have hg2 := hg.2.2.2.1
    have hr := rk_le hD k (by omega)
    have ih2 := ih (k + 1) (by omega) h
    rw [rk_s] at ih2
    rw [g_X11_risk_28]
    simp (disch := omega) only [g_X11_risk_30, g_X11_risk_32, g_X11_risk_35, g_X11_risk_36, g_X11_risk_39, g_X11_risk_41, g_X11_risk_44, g_X11_risk_46, g_X11_risk_48, g_X11_risk_51, g_X11_risk_52, g_X11_risk_55, g_X11_risk_58, g_X11_risk_60, g_X11_risk_63, g_X11_risk_64, g_X11_risk_67, g_X11_risk_70, g_X11_risk_71, g_X11_risk_73, g_X11_risk_76, g_X11_risk_77, g_X11_risk_78, g_X11_risk_79, g_X11_risk_81, g_X11_risk_84, g_X11_risk_85, g_X11_risk_86, g_X11_risk_89, lk_X11_risk, XI, Nat.reduceAdd, Nat.reduceEqDiff, not_false_eq_true, nI_T1, nI_T0, true_and, and_true, WC, WV, WU, rs_b_0, rs_b_ok2, true_or, or_true, Classical.not_not, not_true_eq_false, if_true, if_false, reduceCtorEq, nI_leS, hR, va_rf, k_St P n s _ _ R hq, cx, su_at_48, b49 k (by omega), s_X0_isAbove _ _ _ hA (Nat.zero_le 1000000), Nat.zero_mul, nI_addS, sk_cP n s _ _ R h1, v2, v3, bt_or]
    rw [if_neg (by omega)]
    by_cases e : 0 < (aftD D k).1
    · rw [if_pos e] at ih2
      simp only [e, not_true_eq_false, if_false]
      exact ih2 _
    · rw [if_neg e] at ih2
      simp only [e, not_false_eq_true, if_true]
      exact ih2 _
theorem X12_risk_l (hD : D.ok) (P : Nat → Option rs_C) (n s : Nat) (I : Nat → Nat → Int32) (J : Nat → Nat → Int64) (R : Nat → Nat → Option Nat) (d : Nat) (Q : rs_H → Option Value → Prop) (hM : mDt (I 62) D) (b2 : mS J 67 68 12 (aftD D)) (x0 : Int32) : ∀ (m k : Nat), k + m = 12 → rs_X (d + 20) yX12_risk 110 [some (.ref 61), some (.int x0), some (.int (nI (rk D 12).1)), some (.int (nI (rk D 12).2)), some (.int (nI 12))] [] (sk_w P n s I J R) Q →
    rs_X (d + 20) yX12_risk 35 [some (.ref 61), some (.int x0), some (.int (nI (rk D k).1)), some (.int (nI (rk D k).2)), some (.int (nI k))] [] (sk_w P n s I J R) Q := by
  intro m
  induction m with
  | zero =>
    intro k hk h
    have : k = 12 := by omega
    subst this
    rw [g_X12_risk_35]
    simp (disch := omega) only [g_X12_risk_37, g_X12_risk_39, g_X12_risk_42, g_X12_risk_43, g_X12_risk_44, g_X12_risk_47, g_X12_risk_49, g_X12_risk_50, g_X12_risk_51, g_X12_risk_52, g_X12_risk_55, g_X12_risk_56, g_X12_risk_59, g_X12_risk_61, g_X12_risk_64, g_X12_risk_65, g_X12_risk_66, g_X12_risk_67, g_X12_risk_70, g_X12_risk_71, g_X12_risk_72, g_X12_risk_73, g_X12_risk_74, g_X12_risk_75, g_X12_risk_78, g_X12_risk_80, g_X12_risk_81, g_X12_risk_82, g_X12_risk_83, g_X12_risk_86, g_X12_risk_87, g_X12_risk_90, g_X12_risk_92, g_X12_risk_95, g_X12_risk_96, g_X12_risk_97, g_X12_risk_98, g_X12_risk_101, g_X12_risk_102, g_X12_risk_103, g_X12_risk_104, g_X12_risk_107, lk_X12_risk, XI, Nat.reduceAdd, Nat.reduceEqDiff, not_false_eq_true, nI_T1, nI_T0, true_and, and_true, WC, WV, WU, nI_leS, Nat.le_refl, if_true]
    exact h
  | succ m ih =>
    intro k hk h
    have hA := aftD_ok hD k (by omega)
    have hA1 := hA.1
    have hg := hD.2.1 k (by omega)
    have hg1 := hg.2.2.1
    have hg2 := hg.2.2.2.1
    have hr := rk_le hD k (by omega)
    obtain ⟨g0, g1, g2, g3, g4, g5⟩ := hM.2.1 k (by omega)
    have ih2 := ih (k + 1) (by omega) h
    rw [rk_s] at ih2
    rw [g_X12_risk_35]
    simp (disch := omega) only [g_X12_risk_37, g_X12_risk_39, g_X12_risk_42, g_X12_risk_43, g_X12_risk_44, g_X12_risk_47, g_X12_risk_49, g_X12_risk_50, g_X12_risk_51, g_X12_risk_52, g_X12_risk_55, g_X12_risk_56, g_X12_risk_59, g_X12_risk_61, g_X12_risk_64, g_X12_risk_65, g_X12_risk_66, g_X12_risk_67, g_X12_risk_70, g_X12_risk_71, g_X12_risk_72, g_X12_risk_73, g_X12_risk_74, g_X12_risk_75, g_X12_risk_78, g_X12_risk_80, g_X12_risk_81, g_X12_risk_82, g_X12_risk_83, g_X12_risk_86, g_X12_risk_87, g_X12_risk_90, g_X12_risk_92, g_X12_risk_95, g_X12_risk_96, g_X12_risk_97, g_X12_risk_98, g_X12_risk_101, g_X12_risk_102, g_X12_risk_103, g_X12_risk_104, g_X12_risk_107, lk_X12_risk, XI, Nat.reduceAdd, Nat.reduceEqDiff, not_false_eq_true, nI_T1, nI_T0, true_and, and_true, WC, WV, WU, rs_b_0, rs_b_ok2, true_or, or_true, Classical.not_not, not_true_eq_false, if_true, if_false, reduceCtorEq, nI_leS, nI_cl, rs_in_t, (b2 k (by omega)).1, lg_cmp_le, lg_cmp_gt, pk_lLE (show (aftD D k).1 < 2 ^ 63 by omega) (show 0 < 2 ^ 63 by decide), pk_lLT (show 0 < 2 ^ 63 by decide) (show (aftD D k).1 < 2 ^ 63 by omega), s_X12_at, nI_addS, g2, g3, bt_or, nI_or0]
    rw [if_neg (by omega)]
    by_cases e : 0 < (aftD D k).1
    · rw [if_pos e] at ih2
      have e2 : ¬ (aftD D k).1 ≤ 0 := by omega
      simp only [e2, if_false]
      exact ih2
    · rw [if_neg e] at ih2
      have e2 : (aftD D k).1 ≤ 0 := by omega
      simp only [e2, if_true]
      exact ih2
theorem b_risk (hS : SOk D Ds L tp) (x0 : Int32) : BC yX11_risk yX12_risk [.int x0] D Ds L tp rea := by
  by_cases c0 : nI 0 ≤ x0 ∧ x0 ≤ nI 1
  · obtain ⟨a, -, ha, rfl⟩ := (nI_within (by decide) (by decide)).mp c0
    refine BC_plan hS (.int (if whyD D = 0 then (if a = 0 then nI (rk D 12).1 else nI (rk D 12).2 &&& (nI (rk D 12).1 ^^^ (-1))) else (-3))) (Or.inl ⟨_, rfl⟩) (fun d P n s I J R Q h hQ => ?_) (fun d P n s I J R Q h hQ => ?_)
    · rw [em_X11_risk]
      simp (disch := omega) only [g_X11_risk_0, g_X11_risk_1, g_X11_risk_2, g_X11_risk_3, g_X11_risk_6, g_X11_risk_9, g_X11_risk_10, g_X11_risk_11, g_X11_risk_12, lk_X11_risk, XI, Nat.reduceAdd, Nat.reduceEqDiff, not_false_eq_true, nI_T1, nI_T0, true_and, and_true, WC, WV, WU, rs_b_0, rs_b_ok2, true_or, or_true, Classical.not_not, not_true_eq_false, if_true, if_false, reduceCtorEq, s_X11_isIngredient, s_X11_isRecipe, s_X11_isWithin, s_X11_isPart, c0]
      refine c_findPlan P n s I J R (d + 36) _ hS.1 h ?_
      intro I' J' h' f1 f2 hv
      have hQ' := hQ I' J' h' f1 f2
      by_cases hw : ¬ whyD D = 0
      · rw [if_neg hw] at hQ'
        simp (disch := omega) only [g_X11_risk_15, g_X11_risk_18, g_X11_risk_20, lk_X11_risk, XI, Nat.reduceAdd, Nat.reduceEqDiff, not_false_eq_true, nI_T1, nI_T0, true_and, and_true, WC, WV, WU, rs_b_0, rs_b_ok2, true_or, or_true, Classical.not_not, not_true_eq_false, if_true, if_false, reduceCtorEq, hw]
        exact hQ'
      have hw := Classical.not_not.mp hw
      obtain ⟨b47, b49, b53, b45⟩ := hv hw
      rw [if_pos hw] at hQ'
      obtain ⟨q, hR, hq⟩ := h'.2.1
      simp (disch := omega) only [g_X11_risk_15, g_X11_risk_18, g_X11_risk_20, g_X11_risk_21, g_X11_risk_22, g_X11_risk_23, g_X11_risk_24, g_X11_risk_25, g_X11_risk_26, lk_X11_risk, XI, Nat.reduceAdd, Nat.reduceEqDiff, not_false_eq_true, nI_T1, nI_T0, true_and, and_true, WC, WV, WU, rs_b_0, rs_b_ok2, true_or, or_true, Classical.not_not, not_true_eq_false, if_true, if_false, reduceCtorEq, hw]
      refine X11_risk_l hS.1 s I' J' (d + 40) Q hq hR b49 _ 12 0 rfl ?_ _
      intro z5
      by_cases e : a = 0
      · subst e
        rw [if_pos rfl] at hQ'
        simp (disch := omega) only [g_X11_risk_92, g_X11_risk_93, g_X11_risk_96, g_X11_risk_97, g_X11_risk_100, g_X11_risk_101, g_X11_risk_102, g_X11_risk_103, g_X11_risk_104, g_X11_risk_105, lk_X11_risk, XI, Nat.reduceAdd, Nat.reduceEqDiff, not_false_eq_true, nI_T1, nI_T0, true_and, and_true, WC, WV, WU, rs_b_0, rs_b_ok2, true_or, or_true, Classical.not_not, not_true_eq_false, if_true, if_false, reduceCtorEq, nI_00]
        exact hQ'
      · rw [if_neg e] at hQ'
        simp (disch := omega) only [g_X11_risk_92, g_X11_risk_93, g_X11_risk_96, g_X11_risk_97, g_X11_risk_100, g_X11_risk_101, g_X11_risk_102, g_X11_risk_103, g_X11_risk_104, g_X11_risk_105, lk_X11_risk, XI, Nat.reduceAdd, Nat.reduceEqDiff, not_false_eq_true, nI_T1, nI_T0, true_and, and_true, WC, WV, WU, rs_b_0, rs_b_ok2, true_or, or_true, Classical.not_not, not_true_eq_false, if_true, if_false, reduceCtorEq, nI_eq0S, e]
        exact hQ'
    · rw [em_X12_risk]
      by_cases hp : D.pl = none
      · have hw : ¬ whyD D = 0 := fun z => whyD_p z hp
        have hQ' := hQ I J (by rw [reaD_n hp]; exact h) (fR_r I) (fR_r J)
        rw [if_neg hw] at hQ'
        simp (disch := omega) only [g_X12_risk_0, g_X12_risk_1, g_X12_risk_2, g_X12_risk_3, g_X12_risk_6, g_X12_risk_9, g_X12_risk_10, g_X12_risk_11, g_X12_risk_12, g_X12_risk_15, g_X12_risk_18, g_X12_risk_19, g_X12_risk_22, g_X12_risk_25, g_X12_risk_27, lk_X12_risk, XI, Nat.reduceAdd, Nat.reduceEqDiff, not_false_eq_true, nI_T1, nI_T0, true_and, and_true, WC, WV, WU, rs_b_0, rs_b_ok2, true_or, or_true, Classical.not_not, not_true_eq_false, if_true, if_false, reduceCtorEq, s_X12_isIngredient, s_X12_isNumber, s_X12_in, c0, r_hasPlan _ _ _ _ _ _ _ _ h.1 hS.1, hp]
        exact hQ'
      simp (disch := omega) only [g_X12_risk_0, g_X12_risk_1, g_X12_risk_2, g_X12_risk_3, g_X12_risk_6, g_X12_risk_9, g_X12_risk_10, g_X12_risk_11, g_X12_risk_12, g_X12_risk_15, g_X12_risk_18, g_X12_risk_19, lk_X12_risk, XI, Nat.reduceAdd, Nat.reduceEqDiff, not_false_eq_true, nI_T1, nI_T0, true_and, and_true, WC, WV, WU, rs_b_0, rs_b_ok2, true_or, or_true, Classical.not_not, not_true_eq_false, if_true, if_false, reduceCtorEq, s_X12_isIngredient, s_X12_isNumber, s_X12_in, c0, r_hasPlan _ _ _ _ _ _ _ _ h.1 hS.1, hp]
      refine r_isFound P n s I J R (d + 54) _ hS.1 h hp ?_
      intro I' J' h' f1 f2 hv
      have hQ' := hQ I' J' h' f1 f2
      by_cases hw : ¬ whyD D = 0
      · rw [if_neg hw] at hQ'
        simp (disch := omega) only [g_X12_risk_22, g_X12_risk_25, g_X12_risk_27, lk_X12_risk, XI, Nat.reduceAdd, Nat.reduceEqDiff, not_false_eq_true, nI_T1, nI_T0, true_and, and_true, WC, WV, WU, rs_b_0, rs_b_ok2, true_or, or_true, Classical.not_not, not_true_eq_false, if_true, if_false, reduceCtorEq, hw]
        exact hQ'
      have hw := Classical.not_not.mp hw
      obtain ⟨b1, b2, b3, b4⟩ := hv hw
      rw [if_pos hw] at hQ'
      simp (disch := omega) only [g_X12_risk_22, g_X12_risk_25, g_X12_risk_27, g_X12_risk_28, g_X12_risk_29, g_X12_risk_30, g_X12_risk_31, g_X12_risk_32, g_X12_risk_33, lk_X12_risk, XI, Nat.reduceAdd, Nat.reduceEqDiff, not_false_eq_true, nI_T1, nI_T0, true_and, and_true, WC, WV, WU, rs_b_0, rs_b_ok2, true_or, or_true, Classical.not_not, not_true_eq_false, if_true, if_false, reduceCtorEq, hw]
      refine X12_risk_l hS.1 P n s I' J' R (d + 40) Q h'.1 b2 _ 12 0 rfl ?_
      by_cases e : a = 0
      · subst e
        rw [if_pos rfl] at hQ'
        simp (disch := omega) only [g_X12_risk_110, g_X12_risk_111, g_X12_risk_114, g_X12_risk_115, g_X12_risk_118, g_X12_risk_119, g_X12_risk_120, g_X12_risk_121, g_X12_risk_122, g_X12_risk_123, lk_X12_risk, XI, Nat.reduceAdd, Nat.reduceEqDiff, not_false_eq_true, nI_T1, nI_T0, true_and, and_true, WC, WV, WU, rs_b_0, rs_b_ok2, true_or, or_true, Classical.not_not, not_true_eq_false, if_true, if_false, reduceCtorEq, nI_00]
        exact hQ'
      · rw [if_neg e] at hQ'
        simp (disch := omega) only [g_X12_risk_110, g_X12_risk_111, g_X12_risk_114, g_X12_risk_115, g_X12_risk_118, g_X12_risk_119, g_X12_risk_120, g_X12_risk_121, g_X12_risk_122, g_X12_risk_123, lk_X12_risk, XI, Nat.reduceAdd, Nat.reduceEqDiff, not_false_eq_true, nI_T1, nI_T0, true_and, and_true, WC, WV, WU, rs_b_0, rs_b_ok2, true_or, or_true, Classical.not_not, not_true_eq_false, if_true, if_false, reduceCtorEq, nI_eq0S, e]
        exact hQ'
  · refine BC_same hS (.int (-1)) (Or.inl ⟨_, rfl⟩) (fun d P n s I J R Q h hQ => ?_) (fun d P n s I J R Q h hQ => ?_)
    · rw [em_X11_risk]
      simp (disch := omega) only [g_X11_risk_0, g_X11_risk_1, g_X11_risk_2, g_X11_risk_3, g_X11_risk_6, g_X11_risk_9, g_X11_risk_10, lk_X11_risk, XI, Nat.reduceAdd, Nat.reduceEqDiff, not_false_eq_true, nI_T1, nI_T0, true_and, and_true, WC, WV, WU, rs_b_0, rs_b_ok2, true_or, or_true, Classical.not_not, not_true_eq_false, if_true, if_false, reduceCtorEq, s_X11_isIngredient, s_X11_isRecipe, s_X11_isWithin, s_X11_isPart, c0]
      exact hQ
    · rw [em_X12_risk]
      simp (disch := omega) only [g_X12_risk_0, g_X12_risk_1, g_X12_risk_2, g_X12_risk_3, g_X12_risk_6, g_X12_risk_9, g_X12_risk_10, lk_X12_risk, XI, Nat.reduceAdd, Nat.reduceEqDiff, not_false_eq_true, nI_T1, nI_T0, true_and, and_true, WC, WV, WU, rs_b_0, rs_b_ok2, true_or, or_true, Classical.not_not, not_true_eq_false, if_true, if_false, reduceCtorEq, s_X12_isIngredient, s_X12_isNumber, s_X12_in, c0]
      exact hQ
end
