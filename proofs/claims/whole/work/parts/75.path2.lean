/-! the question for a path: both sides answer alike -/
section
variable {P : Nat → Option rs_C} {b : Nat} (n s : Nat) (I : Nat → Nat → Int32) (J : Nat → Nat → Int64) (R : Nat → Nat → Option Nat) (d : Nat) (Q : rs_H → Option Value → Prop)
theorem g_planRecipe_n {q : Nat} {D : Dt} (h : cSt P b q D) (hp : D.pl = none) : rs_XM d yX7_planRecipe [.ref q] (sk_w P n s I J R) Q ↔ Q (sk_w P n s I J R) (some (.int (-1))) := by
  obtain ⟨V, a, c, e, Ua, Uc, Ue, h1, h2, h3, h4, h5, h6, h7, h8, h9⟩ := h
  rw [hp] at h8
  have h8 : V 3 = .int (-1) ∧ ∃ x, V 4 = .long x := h8
  rw [em_X7_planRecipe]
  simp (disch := omega) only [K_X7_planRecipe, lk_X7_planRecipe, XI, Nat.reduceAdd, Nat.reduceEqDiff, not_false_eq_true, nI_T1, nI_T0, true_and, and_true, WC, WV, WU, sk_cP n s I J R h1, h8.1]
theorem s_stepAt {k : Nat} (hk : k < 9) : rs_XM d yX4_stepAt [.ref 59, .int (nI k)] (sk_w P n s I J R) Q ↔ Q (sk_w P n s I J R) (some (.int (I 60 k))) := by
  rw [em_X4_stepAt]
  simp (disch := omega) only [K_X4_stepAt, lk_X4_stepAt, XI, Nat.reduceAdd, Nat.reduceEqDiff, not_false_eq_true, nI_T1, nI_T0, true_and, and_true, WC, WV, WU, nI_lt0S, nI_leS, nI_cl, rs_in_t, if_false]
  rw [if_neg (by omega)]
theorem s_len4 : rs_XM d yX4_length [.ref 59] (sk_w P n s I J R) Q ↔ Q (sk_w P n s I J R) (some (.int (I 59 1))) := by
  rw [em_X4_length]
  simp (disch := omega) only [K_X4_length, lk_X4_length, XI, Nat.reduceAdd, Nat.reduceEqDiff, not_false_eq_true, nI_T1, nI_T0, true_and, and_true, WC, WV, WU]
/-- the class's search -/
theorem s_search {q : Nat} {D : Dt} (hq : cSt P b q D) (hD : D.ok) {a : Nat} (ha : a ≤ 7) {r : Nat} (hr : r < 8) {Z : Rc} (hz : D.rc r = some Z)
    (q0 : (pw D a 20 0 r).1 = 0 → ∀ I', pf I I' → Q (sk_w P n s I' J R) (some (.int (nI 0))))
    (q1 : (pw D a 20 0 r).1 = 1 → ∀ I', pf I I' → I' 59 1 = nI ((pw D a 20 0 r).2.length + 1) → (pw D a 20 0 r).2.length ≤ 8 → (∀ (j v : Nat), (r :: (pw D a 20 0 r).2)[j]? = some v → I' 60 j = nI v) → Q (sk_w P n s I' J R) (some (.int (nI 1))))
    (q2 : (pw D a 20 0 r).1 = 2 → ∀ I', pf I I' → Q (sk_w P n s I' J R) (some (.int (nI 2)))) : rs_XM (d + 24) yX4_search [.ref 59, .ref q, .int (nI r), .int (nI a)] (sk_w P n s I J R) Q := by
  rw [em_X4_search]
  simp (disch := omega) only [K_X4_search, lk_X4_search, XI, Nat.reduceAdd, Nat.reduceEqDiff, not_false_eq_true, nI_T1, nI_T0, true_and, and_true, WC, WV, WU, nI_00]
  have p0 : pf I (rs_u2 (rs_u2 I 59 2 (nI 0)) 59 1 (nI 0)) := fun q j a b => by rw [rs_u2_ne _ _ (by omega), rs_u2_ne _ _ (by omega)]
  refine s_pwalk hq hD ha 20 _ n s _ J R _ 0 r 0 0 [] rfl (by omega) (by omega) hr rfl (fun g h => by rw [Nat.zero_testBit] at h; cases h) (FG_0 D a) (fun g h => by rw [Nat.zero_testBit] at h; cases h) ?_ (by omega) ?_ ?_ ?_
  · rw [rs_u2_ne _ _ (by omega), rs_u2_eq]
  · intro I' fin' F' e _ _ _ _ _ _ hp
    simp (disch := omega) only [K_X4_search, lk_X4_search, XI, Nat.reduceAdd, Nat.reduceEqDiff, not_false_eq_true, nI_T1, nI_T0, true_and, and_true, WC, WV, WU]
    exact q0 e I' (pf_t p0 hp)
  · intro I' e h1 h2 h3 h4 hp
    simp (disch := omega) only [K_X4_search, lk_X4_search, XI, Nat.reduceAdd, Nat.reduceEqDiff, not_false_eq_true, nI_T1, nI_T0, true_and, and_true, WC, WV, WU]
    have hl : (pw D a 20 0 r).2.length ≤ 8 := by
      cases hc : (pw D a 20 0 r).2.length with
      | zero => omega
      | succ c =>
        have hg : (pw D a 20 0 r).2[c]? = some ((pw D a 20 0 r).2[c]'(by omega)) := List.getElem?_eq_getElem (by omega)
        have := (h4 c _ hg).2
        omega
    refine q1 e I' (pf_t p0 hp) (by rw [h1]; congr 1; omega) hl (fun j v hj => ?_)
    cases j with
    | zero =>
      cases hj
      exact h3
    | succ j =>
      have := (h4 j v hj).1
      rw [show 0 + 1 + j = j + 1 by omega] at this
      exact this
  · intro I' e hp
    simp (disch := omega) only [K_X4_search, lk_X4_search, XI, Nat.reduceAdd, Nat.reduceEqDiff, not_false_eq_true, nI_T1, nI_T0, true_and, and_true, WC, WV, WU]
    exact q2 e I' (pf_t p0 hp)
end
theorem nI_m2 {a : Nat} (h : a < 2147483648) : (nI a = -2) ↔ False := ⟨fun z => nI_pos (n := a) h (by rw [z]; decide), fun z => z.elim⟩
theorem pf_C {I I' : Nat → Nat → Int32} (h : pf I I') : fC I I' := fun q j e => h q j (by omega) (by omega)
theorem CI_pf {P : Nat → Option rs_C} {n : Nat} {I I' : Nat → Nat → Int32} {R : Nat → Nat → Option Nat} {D : Dt} {Ds : Option Dt} {L : List Dt} {tp : List Nat} {rea : Int32} (h : CI P n I R D Ds L tp rea) (hp : pf I I') : CI P n I' R D Ds L tp rea :=
  CI_f h (hp 1 3 (by decide) (by decide)) (hp 43 1 (by decide) (by decide)) (fun j => hp 44 j (by decide) (by decide)) (by rw [hp 1 4 (by decide) (by decide)]; exact h.2.2.2.2.2.1)
theorem RI_g {I I' : Nat → Nat → Int32} {D : Dt} {Ds : Option Dt} {L : List Dt} {tp : List Nat} {rea : Int32} (h : RI I D Ds L tp rea) (hf : gI I I') : RI I' D Ds L tp rea :=
  RI_h h (gI_h hf) (by rw [hf 61 5 (by omega) (by decide) (by decide)]; exact h.2.2.2.2.1)
/-- the reference's answer from the path that it has in its hands -/
theorem p_in (P : Nat → Option rs_C) (n s : Nat) (I' : Nat → Nat → Int32) (J' : Nat → Nat → Int64) (R : Nat → Nat → Option Nat) (d : Nat) (Q : rs_H → Option Value → Prop) {l : List Nat} {r a i k v : Nat} (hk : k < l.length + 1) (hv : (r :: l)[k]? = some v) (b1 : I' 61 21 = nI l.length) (b2 : l.length ≤ 8) (b3 : I' 69 0 = nI r) (b4 : ∀ (j v : Nat), l[j]? = some v → j + 1 < l.length → I' 69 (1 + j) = nI v ∧ v < 8) (b5 : i < 12) (b6 : l[l.length - 1]? = some (100 + i)) (b7 : 1 ≤ l.length) (cm : ¬ nI k = -1) (hQ : Q (sk_w P n s I' J' R) (some (.int (nI v)))) : rs_X (d + 60) yX12_path 42 [some (.ref 61), some (.int (nI a)), some (.int (nI k)), none] (rs_push (some (.int (nI i))) []) (sk_w P n s I' J' R) Q := by
  by_cases kl : k < l.length
  · have hin := (in_len (show l.length < 2147483648 by omega) (nI k)).mpr ⟨k, kl, rfl⟩
    have m9 : I' 69 k = nI v := by
      cases k with
      | zero => cases hv; exact b3
      | succ j =>
        have := (b4 j v hv kl).1
        rw [show 1 + j = j + 1 by omega] at this
        exact this
    simp (disch := omega) only [g_X12_path_42, g_X12_path_43, g_X12_path_44, g_X12_path_46, g_X12_path_49, g_X12_path_51, g_X12_path_52, g_X12_path_53, g_X12_path_54, g_X12_path_57, g_X12_path_59, g_X12_path_60, g_X12_path_61, g_X12_path_62, lk_X12_path, g_X12_path_74, g_X12_path_75, g_X12_path_76, g_X12_path_77, g_X12_path_80, g_X12_path_81, g_X12_path_82, g_X12_path_85, g_X12_path_88, g_X12_path_89, g_X12_path_92, g_X12_path_93, g_X12_path_94, lk_X12_path, g_X12_path_113, lk_X12_path, XI, Nat.reduceAdd, Nat.reduceEqDiff, not_false_eq_true, nI_T1, nI_T0, true_and, and_true, WC, WV, WU, rs_b_0, rs_b_ok2, true_or, or_true, Classical.not_not, not_true_eq_false, if_true, if_false, reduceCtorEq, nI_m1, nI_m2, cm, b1, s_X12_in, hin, nI_cl, rs_in_t, m9]
    exact hQ
  · have ek : k = l.length := by omega
    have hin : ¬ (nI 0 ≤ nI l.length ∧ nI l.length ≤ nI l.length - nI 1) := fun z => by
      obtain ⟨k2, hk2, ek⟩ := (in_len (show l.length < 2147483648 by omega) (nI l.length)).mp z
      have := (nI_eqS (by omega) (by omega)).mp ek
      omega
    have ev : v = 100 + i := by
      obtain ⟨j, rfl⟩ : ∃ j, k = j + 1 := ⟨k - 1, by omega⟩
      rw [List.getElem?_cons_succ, show j = l.length - 1 by omega, b6] at hv
      cases hv
      rfl
    subst ev
    rw [ek] at cm
    simp (disch := omega) only [g_X12_path_42, g_X12_path_43, g_X12_path_44, g_X12_path_46, g_X12_path_49, g_X12_path_51, g_X12_path_52, g_X12_path_53, g_X12_path_54, g_X12_path_57, g_X12_path_59, g_X12_path_60, g_X12_path_61, g_X12_path_62, lk_X12_path, g_X12_path_74, g_X12_path_75, g_X12_path_76, g_X12_path_77, g_X12_path_80, g_X12_path_81, g_X12_path_82, g_X12_path_85, lk_X12_path, g_X12_path_97, g_X12_path_98, g_X12_path_99, g_X12_path_102, g_X12_path_105, g_X12_path_107, g_X12_path_108, g_X12_path_109, g_X12_path_112, g_X12_path_113, lk_X12_path, XI, Nat.reduceAdd, Nat.reduceEqDiff, not_false_eq_true, nI_T1, nI_T0, true_and, and_true, WC, WV, WU, rs_b_0, rs_b_ok2, true_or, or_true, Classical.not_not, not_true_eq_false, if_true, if_false, reduceCtorEq, nI_m1, nI_m2, cm, b1, s_X12_in, ek, hin, nI_addS]
    exact hQ
theorem p_out (P : Nat → Option rs_C) (n s : Nat) (I' : Nat → Nat → Int32) (J' : Nat → Nat → Int64) (R : Nat → Nat → Option Nat) (d : Nat) (Q : rs_H → Option Value → Prop) {l : List Nat} {a i : Nat} {x1 : Int32} (ck : ¬ ∃ k, k < l.length + 1 ∧ x1 = nI k) (cm : ¬ x1 = -1) (b1 : I' 61 21 = nI l.length) (b2 : l.length ≤ 8) (b5 : i < 12) (hQ : Q (sk_w P n s I' J' R) (some (.int (-1)))) : rs_X (d + 60) yX12_path 42 [some (.ref 61), some (.int (nI a)), some (.int x1), none] (rs_push (some (.int (nI i))) []) (sk_w P n s I' J' R) Q := by
  have hin : ¬ (nI 0 ≤ x1 ∧ x1 ≤ nI l.length - nI 1) := fun z => by
    obtain ⟨k2, hk2, ek⟩ := (in_len (show l.length < 2147483648 by omega) x1).mp z
    exact ck ⟨k2, by omega, ek⟩
  have hne : ¬ x1 = nI l.length := fun z => ck ⟨_, by omega, z⟩
  simp (disch := omega) only [g_X12_path_42, g_X12_path_43, g_X12_path_44, g_X12_path_46, g_X12_path_49, g_X12_path_51, g_X12_path_52, g_X12_path_53, g_X12_path_54, g_X12_path_57, g_X12_path_59, g_X12_path_60, g_X12_path_61, g_X12_path_62, lk_X12_path, g_X12_path_74, g_X12_path_75, g_X12_path_76, g_X12_path_77, g_X12_path_80, g_X12_path_81, g_X12_path_82, g_X12_path_85, lk_X12_path, g_X12_path_97, g_X12_path_98, g_X12_path_99, g_X12_path_102, g_X12_path_105, g_X12_path_107, g_X12_path_108, g_X12_path_109, g_X12_path_112, g_X12_path_113, lk_X12_path, XI, Nat.reduceAdd, Nat.reduceEqDiff, not_false_eq_true, nI_T1, nI_T0, true_and, and_true, WC, WV, WU, rs_b_0, rs_b_ok2, true_or, or_true, Classical.not_not, not_true_eq_false, if_true, if_false, reduceCtorEq, nI_m1, nI_m2, cm, b1, s_X12_in, hin, hne]
  exact hQ
section
variable {D : Dt} {Ds : Option Dt} {L : List Dt} {tp : List Nat} {rea : Int32}
theorem BC_keep {y z : MethodName} {as : List Value} (hS : SOk D Ds L tp) (x : Int32) (h1 : ∀ (d : Nat) (P : Nat → Option rs_C) (n s : Nat) (I : Nat → Nat → Int32) (J : Nat → Nat → Int64) (R : Nat → Nat → Option Nat) (Q : rs_H → Option Value → Prop), CI P n I R D Ds L tp rea → (∀ I' J', CI P n I' R D Ds L tp rea → fC I I' → fC J J' → Q (sk_w P n s I' J' R) (some (.int x))) → rs_XM (d + 60) y (.ref 1 :: as) (sk_w P n s I J R) Q)
    (h2 : ∀ (d : Nat) (P : Nat → Option rs_C) (n s : Nat) (I : Nat → Nat → Int32) (J : Nat → Nat → Int64) (R : Nat → Nat → Option Nat) (Q : rs_H → Option Value → Prop), RI I D Ds L tp rea → (∀ I' J', RI I' D Ds L tp rea → fR I I' → fR J J' → Q (sk_w P n s I' J' R) (some (.int x))) → rs_XM (d + 60) z (.ref 61 :: as) (sk_w P n s I J R) Q) : BC y z as D Ds L tp rea :=
  ⟨D, Ds, L, tp, rea, .int x, hS, fun d P n s I J R Q h hQ => h1 d P n s I J R Q h (fun I' J' h' f g => hQ P n s I' J' R h' f g (by omega) (by omega)), fun d P n s I J R Q _ h hQ => h2 d P n s I J R Q h hQ, Or.inl ⟨_, rfl⟩⟩
theorem b_path (hS : SOk D Ds L tp) (x0 x1 : Int32) : BC yX11_path yX12_path [.int x0, .int x1] D Ds L tp rea := by
  by_cases c0 : nI 0 ≤ x0 ∧ x0 ≤ nI 7
  · obtain ⟨a, -, ha, rfl⟩ := (nI_within (by decide) (by decide)).mp c0
    cases hp : D.pl with
    | none =>
      refine BC_same hS (.int (-3)) (Or.inl ⟨_, rfl⟩) (fun d P n s I J R Q h hQ => ?_) (fun d P n s I J R Q h hQ => ?_)
      · obtain ⟨q, hR, hq⟩ := h.2.1
        rw [em_X11_path]
        simp (disch := omega) only [g_X11_path_0, g_X11_path_1, g_X11_path_2, g_X11_path_4, g_X11_path_7, g_X11_path_10, g_X11_path_11, g_X11_path_12, g_X11_path_13, g_X11_path_16, g_X11_path_17, g_X11_path_20, g_X11_path_23, g_X11_path_26, g_X11_path_29, g_X11_path_31, lk_X11_path, XI, Nat.reduceAdd, Nat.reduceEqDiff, not_false_eq_true, nI_T1, nI_T0, true_and, and_true, WC, WV, WU, rs_b_0, rs_b_ok2, true_or, or_true, Classical.not_not, not_true_eq_false, if_true, if_false, reduceCtorEq, s_X11_isWithin, c0, hR, va_rf, k_St P n s I J R hq, g_planRecipe_n n s I J R _ _ hq hp, g_recipeAt_o n s I J R _ _ hq (show ¬ (nI 0 ≤ (-1 : Int32) ∧ (-1 : Int32) ≤ nI 7) by decide)]
        exact hQ
      · rw [em_X12_path]
        simp (disch := omega) only [g_X12_path_0, g_X12_path_1, g_X12_path_2, g_X12_path_4, g_X12_path_7, g_X12_path_10, g_X12_path_11, g_X12_path_12, g_X12_path_13, g_X12_path_16, g_X12_path_19, g_X12_path_20, g_X12_path_21, g_X12_path_24, g_X12_path_27, g_X12_path_28, g_X12_path_31, g_X12_path_34, g_X12_path_36, lk_X12_path, XI, Nat.reduceAdd, Nat.reduceEqDiff, not_false_eq_true, nI_T1, nI_T0, true_and, and_true, WC, WV, WU, rs_b_0, rs_b_ok2, true_or, or_true, Classical.not_not, not_true_eq_false, if_true, if_false, reduceCtorEq, s_X12_in, c0, r_hasPlan _ _ _ _ _ _ _ _ h.1 hS.1, hp]
        exact hQ
    | some p =>
      have p8 := (hS.1.2.2.2.2 p.1 p.2 hp).1
      have hpl : ∀ I : Nat → Nat → Int32, mDt (I 62) D → mPl (I 62) (some p) := fun I hM => by
        have := hM.2.2.2.2
        rw [hp] at this
        exact this
      cases hz : D.rc p.1 with
      | none =>
        refine BC_same hS (.int (-3)) (Or.inl ⟨_, rfl⟩) (fun d P n s I J R Q h hQ => ?_) (fun d P n s I J R Q h hQ => ?_)
        · obtain ⟨q, hR, hq⟩ := h.2.1
          rw [em_X11_path]
          simp (disch := omega) only [g_X11_path_0, g_X11_path_1, g_X11_path_2, g_X11_path_4, g_X11_path_7, g_X11_path_10, g_X11_path_11, g_X11_path_12, g_X11_path_13, g_X11_path_16, g_X11_path_17, g_X11_path_20, g_X11_path_23, g_X11_path_26, g_X11_path_29, g_X11_path_31, lk_X11_path, XI, Nat.reduceAdd, Nat.reduceEqDiff, not_false_eq_true, nI_T1, nI_T0, true_and, and_true, WC, WV, WU, rs_b_0, rs_b_ok2, true_or, or_true, Classical.not_not, not_true_eq_false, if_true, if_false, reduceCtorEq, s_X11_isWithin, c0, hR, va_rf, k_St P n s I J R hq, g_planRecipe n s I J R _ _ hq hp, g_recipeAt_n n s I J R hq p8 hz]
          exact hQ
        · have l0 : I 62 445 = nI p.1 := (hpl I h.1).1
          have ey : ¬ I 62 (30 * p.1) = nI 1 := fun z => ((s_rowIsThere h.1 p8).mp z) hz
          rw [em_X12_path]
          simp (disch := omega) only [g_X12_path_0, g_X12_path_1, g_X12_path_2, g_X12_path_4, g_X12_path_7, g_X12_path_10, g_X12_path_11, g_X12_path_12, g_X12_path_13, g_X12_path_16, g_X12_path_19, g_X12_path_20, g_X12_path_21, g_X12_path_24, g_X12_path_27, g_X12_path_28, g_X12_path_31, g_X12_path_34, g_X12_path_36, lk_X12_path, XI, Nat.reduceAdd, Nat.reduceEqDiff, not_false_eq_true, nI_T1, nI_T0, true_and, and_true, WC, WV, WU, rs_b_0, rs_b_ok2, true_or, or_true, Classical.not_not, not_true_eq_false, if_true, if_false, reduceCtorEq, s_X12_in, c0, r_hasPlan _ _ _ _ _ _ _ _ h.1 hS.1, hp, nI_cl, rs_in_t, l0, s_X12_isThere, ey]
          exact hQ
      | some Z =>
        have hle := pw_le D a 20 0 p.1
        have h3 : (pw D a 20 0 p.1).1 = 0 ∨ (pw D a 20 0 p.1).1 = 1 ∨ (pw D a 20 0 p.1).1 = 2 := by omega
        rcases h3 with e0 | e0 | e0
        · refine BC_keep hS (-5) (fun d P n s I J R Q h hQ => ?_) (fun d P n s I J R Q h hQ => ?_)
          · obtain ⟨q, hR, hq⟩ := h.2.1
            obtain ⟨y, hy, cy⟩ := g_recipeAt_s hq p8 hz
            rw [em_X11_path]
            simp (disch := omega) only [g_X11_path_0, g_X11_path_1, g_X11_path_2, g_X11_path_4, g_X11_path_7, g_X11_path_10, g_X11_path_11, g_X11_path_12, g_X11_path_13, g_X11_path_16, g_X11_path_17, g_X11_path_20, g_X11_path_23, g_X11_path_26, g_X11_path_29, g_X11_path_31, g_X11_path_32, g_X11_path_33, g_X11_path_36, g_X11_path_37, g_X11_path_40, g_X11_path_41, g_X11_path_44, g_X11_path_47, g_X11_path_48, lk_X11_path, XI, Nat.reduceAdd, Nat.reduceEqDiff, not_false_eq_true, nI_T1, nI_T0, true_and, and_true, WC, WV, WU, rs_b_0, rs_b_ok2, true_or, or_true, Classical.not_not, not_true_eq_false, if_true, if_false, reduceCtorEq, s_X11_isWithin, c0, hR, va_rf, k_St P n s I J R hq, g_planRecipe n s I J R _ _ hq hp, cy]
            refine s_search n s I J R (d + 35) _ hq hS.1 ha p8 hz (fun e I' hpf => ?_) (fun e I' hpf g1 g2 g3 => ?_) (fun e I' hpf => ?_)
            · (simp (disch := omega) only [g_X11_path_51, g_X11_path_52, g_X11_path_53, g_X11_path_54, g_X11_path_57, g_X11_path_59, g_X11_path_60, g_X11_path_61, g_X11_path_64, g_X11_path_66, lk_X11_path, XI, Nat.reduceAdd, Nat.reduceEqDiff, not_false_eq_true, nI_T1, nI_T0, true_and, and_true, WC, WV, WU, rs_b_0, rs_b_ok2, true_or, or_true, Classical.not_not, not_true_eq_false, if_true, if_false, reduceCtorEq]; exact hQ _ _ (CI_pf h hpf) (pf_C hpf) (fC_r J))
            · (exfalso; omega)
            · (exfalso; omega)
          · have l0 : I 62 445 = nI p.1 := (hpl I h.1).1
            have ey : I 62 (30 * p.1) = nI 1 := (s_rowIsThere h.1 p8).mpr (by rw [hz]; intro z; cases z)
            rw [em_X12_path]
            simp (disch := omega) only [g_X12_path_0, g_X12_path_1, g_X12_path_2, g_X12_path_4, g_X12_path_7, g_X12_path_10, g_X12_path_11, g_X12_path_12, g_X12_path_13, g_X12_path_16, g_X12_path_19, g_X12_path_20, g_X12_path_21, g_X12_path_24, g_X12_path_27, g_X12_path_28, g_X12_path_31, g_X12_path_34, g_X12_path_36, g_X12_path_37, g_X12_path_38, g_X12_path_39, lk_X12_path, XI, Nat.reduceAdd, Nat.reduceEqDiff, not_false_eq_true, nI_T1, nI_T0, true_and, and_true, WC, WV, WU, rs_b_0, rs_b_ok2, true_or, or_true, Classical.not_not, not_true_eq_false, if_true, if_false, reduceCtorEq, s_X12_in, c0, r_hasPlan _ _ _ _ _ _ _ _ h.1 hS.1, hp, nI_cl, rs_in_t, l0, s_X12_isThere, ey]
            refine s_endOfPath hS.1 ha P n s I J R (d + 56) _ h.1 hp hz (fun I' J' e gi gj => ?_) (fun I' J' i e gi gj b1 b2 b3 b4 b5 b6 b7 => ?_) (fun I' J' e gi gj => ?_)
            · (simp (disch := omega) only [g_X12_path_42, g_X12_path_43, g_X12_path_44, g_X12_path_46, g_X12_path_49, g_X12_path_51, g_X12_path_52, g_X12_path_53, g_X12_path_54, g_X12_path_57, g_X12_path_59, lk_X12_path, XI, Nat.reduceAdd, Nat.reduceEqDiff, not_false_eq_true, nI_T1, nI_T0, true_and, and_true, WC, WV, WU, rs_b_0, rs_b_ok2, true_or, or_true, Classical.not_not, not_true_eq_false, if_true, if_false, reduceCtorEq]; exact hQ _ _ (RI_g h gi) (hI_R (gI_h gi)) (hJ_R (gJ_h gj)))
            · (exfalso; omega)
            · (exfalso; omega)
        · by_cases cm : x1 = -1
          · subst cm
            refine BC_keep hS (nI ((pw D a 20 0 p.1).2.length + 1)) (fun d P n s I J R Q h hQ => ?_) (fun d P n s I J R Q h hQ => ?_)
            · obtain ⟨q, hR, hq⟩ := h.2.1
              obtain ⟨y, hy, cy⟩ := g_recipeAt_s hq p8 hz
              rw [em_X11_path]
              simp (disch := omega) only [g_X11_path_0, g_X11_path_1, g_X11_path_2, g_X11_path_4, g_X11_path_7, g_X11_path_10, g_X11_path_11, g_X11_path_12, g_X11_path_13, g_X11_path_16, g_X11_path_17, g_X11_path_20, g_X11_path_23, g_X11_path_26, g_X11_path_29, g_X11_path_31, g_X11_path_32, g_X11_path_33, g_X11_path_36, g_X11_path_37, g_X11_path_40, g_X11_path_41, g_X11_path_44, g_X11_path_47, g_X11_path_48, lk_X11_path, XI, Nat.reduceAdd, Nat.reduceEqDiff, not_false_eq_true, nI_T1, nI_T0, true_and, and_true, WC, WV, WU, rs_b_0, rs_b_ok2, true_or, or_true, Classical.not_not, not_true_eq_false, if_true, if_false, reduceCtorEq, s_X11_isWithin, c0, hR, va_rf, k_St P n s I J R hq, g_planRecipe n s I J R _ _ hq hp, cy]
              refine s_search n s I J R (d + 35) _ hq hS.1 ha p8 hz (fun e I' hpf => ?_) (fun e I' hpf g1 g2 g3 => ?_) (fun e I' hpf => ?_)
              · (exfalso; omega)
              · (simp (disch := omega) only [g_X11_path_51, g_X11_path_52, g_X11_path_53, g_X11_path_54, g_X11_path_57, g_X11_path_59, g_X11_path_60, g_X11_path_61, g_X11_path_64, g_X11_path_66, g_X11_path_67, g_X11_path_68, g_X11_path_69, g_X11_path_72, g_X11_path_73, g_X11_path_76, g_X11_path_79, lk_X11_path, XI, Nat.reduceAdd, Nat.reduceEqDiff, not_false_eq_true, nI_T1, nI_T0, true_and, and_true, WC, WV, WU, rs_b_0, rs_b_ok2, true_or, or_true, Classical.not_not, not_true_eq_false, if_true, if_false, reduceCtorEq, s_len4, g1, nI_10f]; exact hQ _ _ (CI_pf h hpf) (pf_C hpf) (fC_r J))
              · (exfalso; omega)
            · have l0 : I 62 445 = nI p.1 := (hpl I h.1).1
              have ey : I 62 (30 * p.1) = nI 1 := (s_rowIsThere h.1 p8).mpr (by rw [hz]; intro z; cases z)
              rw [em_X12_path]
              simp (disch := omega) only [g_X12_path_0, g_X12_path_1, g_X12_path_2, g_X12_path_4, g_X12_path_7, g_X12_path_10, g_X12_path_11, g_X12_path_12, g_X12_path_13, g_X12_path_16, g_X12_path_19, g_X12_path_20, g_X12_path_21, g_X12_path_24, g_X12_path_27, g_X12_path_28, g_X12_path_31, g_X12_path_34, g_X12_path_36, g_X12_path_37, g_X12_path_38, g_X12_path_39, lk_X12_path, XI, Nat.reduceAdd, Nat.reduceEqDiff, not_false_eq_true, nI_T1, nI_T0, true_and, and_true, WC, WV, WU, rs_b_0, rs_b_ok2, true_or, or_true, Classical.not_not, not_true_eq_false, if_true, if_false, reduceCtorEq, s_X12_in, c0, r_hasPlan _ _ _ _ _ _ _ _ h.1 hS.1, hp, nI_cl, rs_in_t, l0, s_X12_isThere, ey]
              refine s_endOfPath hS.1 ha P n s I J R (d + 56) _ h.1 hp hz (fun I' J' e gi gj => ?_) (fun I' J' i e gi gj b1 b2 b3 b4 b5 b6 b7 => ?_) (fun I' J' e gi gj => ?_)
              · (exfalso; omega)
              · (simp (disch := omega) only [g_X12_path_42, g_X12_path_43, g_X12_path_44, g_X12_path_46, g_X12_path_49, g_X12_path_51, g_X12_path_52, g_X12_path_53, g_X12_path_54, g_X12_path_57, g_X12_path_59, g_X12_path_60, g_X12_path_61, g_X12_path_62, g_X12_path_65, g_X12_path_66, g_X12_path_69, g_X12_path_70, g_X12_path_71, lk_X12_path, g_X12_path_113, lk_X12_path, XI, Nat.reduceAdd, Nat.reduceEqDiff, not_false_eq_true, nI_T1, nI_T0, true_and, and_true, WC, WV, WU, rs_b_0, rs_b_ok2, true_or, or_true, Classical.not_not, not_true_eq_false, if_true, if_false, reduceCtorEq, nI_m1, nI_m2, b1, nI_addS]; exact hQ _ _ (RI_g h gi) (hI_R (gI_h gi)) (hJ_R (gJ_h gj)))
              · (exfalso; omega)
          · by_cases ck : ∃ k, k < (pw D a 20 0 p.1).2.length + 1 ∧ x1 = nI k
            · obtain ⟨k, hk, rfl⟩ := ck
              have hv : (p.1 :: (pw D a 20 0 p.1).2)[k]? = some ((p.1 :: (pw D a 20 0 p.1).2)[k]'(by rw [List.length_cons]; exact hk)) := List.getElem?_eq_getElem _
              generalize (p.1 :: (pw D a 20 0 p.1).2)[k]'(by rw [List.length_cons]; exact hk) = v at hv
              refine BC_keep hS (nI v) (fun d P n s I J R Q h hQ => ?_) (fun d P n s I J R Q h hQ => ?_)
              · obtain ⟨q, hR, hq⟩ := h.2.1
                obtain ⟨y, hy, cy⟩ := g_recipeAt_s hq p8 hz
                rw [em_X11_path]
                simp (disch := omega) only [g_X11_path_0, g_X11_path_1, g_X11_path_2, g_X11_path_4, g_X11_path_7, g_X11_path_10, g_X11_path_11, g_X11_path_12, g_X11_path_13, g_X11_path_16, g_X11_path_17, g_X11_path_20, g_X11_path_23, g_X11_path_26, g_X11_path_29, g_X11_path_31, g_X11_path_32, g_X11_path_33, g_X11_path_36, g_X11_path_37, g_X11_path_40, g_X11_path_41, g_X11_path_44, g_X11_path_47, g_X11_path_48, lk_X11_path, XI, Nat.reduceAdd, Nat.reduceEqDiff, not_false_eq_true, nI_T1, nI_T0, true_and, and_true, WC, WV, WU, rs_b_0, rs_b_ok2, true_or, or_true, Classical.not_not, not_true_eq_false, if_true, if_false, reduceCtorEq, s_X11_isWithin, c0, hR, va_rf, k_St P n s I J R hq, g_planRecipe n s I J R _ _ hq hp, cy]
                refine s_search n s I J R (d + 35) _ hq hS.1 ha p8 hz (fun e I' hpf => ?_) (fun e I' hpf g1 g2 g3 => ?_) (fun e I' hpf => ?_)
                · (exfalso; omega)
                · (have hin := (in_len (show (pw D a 20 0 p.1).2.length + 1 < 2147483648 by omega) (nI k)).mpr ⟨k, hk, rfl⟩; simp (disch := omega) only [g_X11_path_51, g_X11_path_52, g_X11_path_53, g_X11_path_54, g_X11_path_57, g_X11_path_59, g_X11_path_60, g_X11_path_61, g_X11_path_64, g_X11_path_66, g_X11_path_67, g_X11_path_68, g_X11_path_69, lk_X11_path, g_X11_path_80, g_X11_path_81, g_X11_path_82, g_X11_path_83, g_X11_path_86, g_X11_path_89, g_X11_path_90, g_X11_path_91, g_X11_path_94, g_X11_path_97, g_X11_path_98, g_X11_path_101, g_X11_path_102, g_X11_path_105, g_X11_path_108, g_X11_path_109, lk_X11_path, XI, Nat.reduceAdd, Nat.reduceEqDiff, not_false_eq_true, nI_T1, nI_T0, true_and, and_true, WC, WV, WU, rs_b_0, rs_b_ok2, true_or, or_true, Classical.not_not, not_true_eq_false, if_true, if_false, reduceCtorEq, cm, s_len4, g1, s_X11_isWithin, hin, s_stepAt, g3 k v hv, nI_10f]; exact hQ _ _ (CI_pf h hpf) (pf_C hpf) (fC_r J))
                · (exfalso; omega)
              · have l0 : I 62 445 = nI p.1 := (hpl I h.1).1
                have ey : I 62 (30 * p.1) = nI 1 := (s_rowIsThere h.1 p8).mpr (by rw [hz]; intro z; cases z)
                rw [em_X12_path]
                simp (disch := omega) only [g_X12_path_0, g_X12_path_1, g_X12_path_2, g_X12_path_4, g_X12_path_7, g_X12_path_10, g_X12_path_11, g_X12_path_12, g_X12_path_13, g_X12_path_16, g_X12_path_19, g_X12_path_20, g_X12_path_21, g_X12_path_24, g_X12_path_27, g_X12_path_28, g_X12_path_31, g_X12_path_34, g_X12_path_36, g_X12_path_37, g_X12_path_38, g_X12_path_39, lk_X12_path, XI, Nat.reduceAdd, Nat.reduceEqDiff, not_false_eq_true, nI_T1, nI_T0, true_and, and_true, WC, WV, WU, rs_b_0, rs_b_ok2, true_or, or_true, Classical.not_not, not_true_eq_false, if_true, if_false, reduceCtorEq, s_X12_in, c0, r_hasPlan _ _ _ _ _ _ _ _ h.1 hS.1, hp, nI_cl, rs_in_t, l0, s_X12_isThere, ey]
                refine s_endOfPath hS.1 ha P n s I J R (d + 56) _ h.1 hp hz (fun I' J' e gi gj => ?_) (fun I' J' i e gi gj b1 b2 b3 b4 b5 b6 b7 => ?_) (fun I' J' e gi gj => ?_)
                · (exfalso; omega)
                · (exact p_in P n s I' J' R d Q hk hv b1 b2 b3 b4 b5 b6 b7 cm (hQ _ _ (RI_g h gi) (hI_R (gI_h gi)) (hJ_R (gJ_h gj))))
                · (exfalso; omega)
            · refine BC_keep hS (-1) (fun d P n s I J R Q h hQ => ?_) (fun d P n s I J R Q h hQ => ?_)
              · obtain ⟨q, hR, hq⟩ := h.2.1
                obtain ⟨y, hy, cy⟩ := g_recipeAt_s hq p8 hz
                rw [em_X11_path]
                simp (disch := omega) only [g_X11_path_0, g_X11_path_1, g_X11_path_2, g_X11_path_4, g_X11_path_7, g_X11_path_10, g_X11_path_11, g_X11_path_12, g_X11_path_13, g_X11_path_16, g_X11_path_17, g_X11_path_20, g_X11_path_23, g_X11_path_26, g_X11_path_29, g_X11_path_31, g_X11_path_32, g_X11_path_33, g_X11_path_36, g_X11_path_37, g_X11_path_40, g_X11_path_41, g_X11_path_44, g_X11_path_47, g_X11_path_48, lk_X11_path, XI, Nat.reduceAdd, Nat.reduceEqDiff, not_false_eq_true, nI_T1, nI_T0, true_and, and_true, WC, WV, WU, rs_b_0, rs_b_ok2, true_or, or_true, Classical.not_not, not_true_eq_false, if_true, if_false, reduceCtorEq, s_X11_isWithin, c0, hR, va_rf, k_St P n s I J R hq, g_planRecipe n s I J R _ _ hq hp, cy]
                refine s_search n s I J R (d + 35) _ hq hS.1 ha p8 hz (fun e I' hpf => ?_) (fun e I' hpf g1 g2 g3 => ?_) (fun e I' hpf => ?_)
                · (exfalso; omega)
                · (have hin : ¬ (nI 0 ≤ x1 ∧ x1 ≤ nI ((pw D a 20 0 p.1).2.length + 1) - nI 1) := fun z => ck ((in_len (show (pw D a 20 0 p.1).2.length + 1 < 2147483648 by omega) x1).mp z); simp (disch := omega) only [g_X11_path_51, g_X11_path_52, g_X11_path_53, g_X11_path_54, g_X11_path_57, g_X11_path_59, g_X11_path_60, g_X11_path_61, g_X11_path_64, g_X11_path_66, g_X11_path_67, g_X11_path_68, g_X11_path_69, lk_X11_path, g_X11_path_80, g_X11_path_81, g_X11_path_82, g_X11_path_83, g_X11_path_86, g_X11_path_89, g_X11_path_90, g_X11_path_91, g_X11_path_94, g_X11_path_97, g_X11_path_98, g_X11_path_101, g_X11_path_102, g_X11_path_105, g_X11_path_108, g_X11_path_109, lk_X11_path, XI, Nat.reduceAdd, Nat.reduceEqDiff, not_false_eq_true, nI_T1, nI_T0, true_and, and_true, WC, WV, WU, rs_b_0, rs_b_ok2, true_or, or_true, Classical.not_not, not_true_eq_false, if_true, if_false, reduceCtorEq, cm, s_len4, g1, s_X11_isWithin, hin, nI_10f, nI_12f]; exact hQ _ _ (CI_pf h hpf) (pf_C hpf) (fC_r J))
                · (exfalso; omega)
              · have l0 : I 62 445 = nI p.1 := (hpl I h.1).1
                have ey : I 62 (30 * p.1) = nI 1 := (s_rowIsThere h.1 p8).mpr (by rw [hz]; intro z; cases z)
                rw [em_X12_path]
                simp (disch := omega) only [g_X12_path_0, g_X12_path_1, g_X12_path_2, g_X12_path_4, g_X12_path_7, g_X12_path_10, g_X12_path_11, g_X12_path_12, g_X12_path_13, g_X12_path_16, g_X12_path_19, g_X12_path_20, g_X12_path_21, g_X12_path_24, g_X12_path_27, g_X12_path_28, g_X12_path_31, g_X12_path_34, g_X12_path_36, g_X12_path_37, g_X12_path_38, g_X12_path_39, lk_X12_path, XI, Nat.reduceAdd, Nat.reduceEqDiff, not_false_eq_true, nI_T1, nI_T0, true_and, and_true, WC, WV, WU, rs_b_0, rs_b_ok2, true_or, or_true, Classical.not_not, not_true_eq_false, if_true, if_false, reduceCtorEq, s_X12_in, c0, r_hasPlan _ _ _ _ _ _ _ _ h.1 hS.1, hp, nI_cl, rs_in_t, l0, s_X12_isThere, ey]
                refine s_endOfPath hS.1 ha P n s I J R (d + 56) _ h.1 hp hz (fun I' J' e gi gj => ?_) (fun I' J' i e gi gj b1 b2 b3 b4 b5 b6 b7 => ?_) (fun I' J' e gi gj => ?_)
                · (exfalso; omega)
                · (exact p_out P n s I' J' R d Q ck cm b1 b2 b5 (hQ _ _ (RI_g h gi) (hI_R (gI_h gi)) (hJ_R (gJ_h gj))))
                · (exfalso; omega)
        · refine BC_keep hS (-3) (fun d P n s I J R Q h hQ => ?_) (fun d P n s I J R Q h hQ => ?_)
          · obtain ⟨q, hR, hq⟩ := h.2.1
            obtain ⟨y, hy, cy⟩ := g_recipeAt_s hq p8 hz
            rw [em_X11_path]
            simp (disch := omega) only [g_X11_path_0, g_X11_path_1, g_X11_path_2, g_X11_path_4, g_X11_path_7, g_X11_path_10, g_X11_path_11, g_X11_path_12, g_X11_path_13, g_X11_path_16, g_X11_path_17, g_X11_path_20, g_X11_path_23, g_X11_path_26, g_X11_path_29, g_X11_path_31, g_X11_path_32, g_X11_path_33, g_X11_path_36, g_X11_path_37, g_X11_path_40, g_X11_path_41, g_X11_path_44, g_X11_path_47, g_X11_path_48, lk_X11_path, XI, Nat.reduceAdd, Nat.reduceEqDiff, not_false_eq_true, nI_T1, nI_T0, true_and, and_true, WC, WV, WU, rs_b_0, rs_b_ok2, true_or, or_true, Classical.not_not, not_true_eq_false, if_true, if_false, reduceCtorEq, s_X11_isWithin, c0, hR, va_rf, k_St P n s I J R hq, g_planRecipe n s I J R _ _ hq hp, cy]
            refine s_search n s I J R (d + 35) _ hq hS.1 ha p8 hz (fun e I' hpf => ?_) (fun e I' hpf g1 g2 g3 => ?_) (fun e I' hpf => ?_)
            · (exfalso; omega)
            · (exfalso; omega)
            · (simp (disch := omega) only [g_X11_path_51, g_X11_path_52, g_X11_path_53, g_X11_path_54, g_X11_path_57, g_X11_path_59, g_X11_path_60, g_X11_path_61, g_X11_path_64, g_X11_path_66, lk_X11_path, XI, Nat.reduceAdd, Nat.reduceEqDiff, not_false_eq_true, nI_T1, nI_T0, true_and, and_true, WC, WV, WU, rs_b_0, rs_b_ok2, true_or, or_true, Classical.not_not, not_true_eq_false, if_true, if_false, reduceCtorEq]; exact hQ _ _ (CI_pf h hpf) (pf_C hpf) (fC_r J))
          · have l0 : I 62 445 = nI p.1 := (hpl I h.1).1
            have ey : I 62 (30 * p.1) = nI 1 := (s_rowIsThere h.1 p8).mpr (by rw [hz]; intro z; cases z)
            rw [em_X12_path]
            simp (disch := omega) only [g_X12_path_0, g_X12_path_1, g_X12_path_2, g_X12_path_4, g_X12_path_7, g_X12_path_10, g_X12_path_11, g_X12_path_12, g_X12_path_13, g_X12_path_16, g_X12_path_19, g_X12_path_20, g_X12_path_21, g_X12_path_24, g_X12_path_27, g_X12_path_28, g_X12_path_31, g_X12_path_34, g_X12_path_36, g_X12_path_37, g_X12_path_38, g_X12_path_39, lk_X12_path, XI, Nat.reduceAdd, Nat.reduceEqDiff, not_false_eq_true, nI_T1, nI_T0, true_and, and_true, WC, WV, WU, rs_b_0, rs_b_ok2, true_or, or_true, Classical.not_not, not_true_eq_false, if_true, if_false, reduceCtorEq, s_X12_in, c0, r_hasPlan _ _ _ _ _ _ _ _ h.1 hS.1, hp, nI_cl, rs_in_t, l0, s_X12_isThere, ey]
            refine s_endOfPath hS.1 ha P n s I J R (d + 56) _ h.1 hp hz (fun I' J' e gi gj => ?_) (fun I' J' i e gi gj b1 b2 b3 b4 b5 b6 b7 => ?_) (fun I' J' e gi gj => ?_)
            · (exfalso; omega)
            · (exfalso; omega)
            · (simp (disch := omega) only [g_X12_path_42, g_X12_path_43, g_X12_path_44, g_X12_path_46, g_X12_path_49, g_X12_path_51, g_X12_path_52, g_X12_path_53, g_X12_path_54, g_X12_path_57, g_X12_path_59, lk_X12_path, XI, Nat.reduceAdd, Nat.reduceEqDiff, not_false_eq_true, nI_T1, nI_T0, true_and, and_true, WC, WV, WU, rs_b_0, rs_b_ok2, true_or, or_true, Classical.not_not, not_true_eq_false, if_true, if_false, reduceCtorEq]; exact hQ _ _ (RI_g h gi) (hI_R (gI_h gi)) (hJ_R (gJ_h gj)))
  · refine BC_same hS (.int (-1)) (Or.inl ⟨_, rfl⟩) (fun d P n s I J R Q h hQ => ?_) (fun d P n s I J R Q h hQ => ?_)
    · rw [em_X11_path]
      simp (disch := omega) only [g_X11_path_0, g_X11_path_1, g_X11_path_2, g_X11_path_4, g_X11_path_7, g_X11_path_10, g_X11_path_11, lk_X11_path, XI, Nat.reduceAdd, Nat.reduceEqDiff, not_false_eq_true, nI_T1, nI_T0, true_and, and_true, WC, WV, WU, rs_b_0, rs_b_ok2, true_or, or_true, Classical.not_not, not_true_eq_false, if_true, if_false, reduceCtorEq, s_X11_isIngredient, s_X11_isRecipe, s_X11_isWithin, s_X11_isPart, c0]
      exact hQ
    · rw [em_X12_path]
      simp (disch := omega) only [g_X12_path_0, g_X12_path_1, g_X12_path_2, g_X12_path_4, g_X12_path_7, g_X12_path_10, g_X12_path_11, lk_X12_path, XI, Nat.reduceAdd, Nat.reduceEqDiff, not_false_eq_true, nI_T1, nI_T0, true_and, and_true, WC, WV, WU, rs_b_0, rs_b_ok2, true_or, or_true, Classical.not_not, not_true_eq_false, if_true, if_false, reduceCtorEq, s_X12_isIngredient, s_X12_isNumber, s_X12_in, c0]
      exact hQ
end
