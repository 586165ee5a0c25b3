/-! the tape is fed -/
section
variable {D : Dt} {Ds : Option Dt} {L : List Dt} {tp : List Nat} {rea : Int32}
theorem app_get (tp : List Nat) (x : Nat) {k v : Nat} (h : (tp ++ [x])[k]? = some v) : (k < tp.length ∧ tp[k]? = some v) ∨ (k = tp.length ∧ v = x) := by
  by_cases e : k < tp.length
  · rw [List.getElem?_append_left e] at h
    exact Or.inl ⟨e, h⟩
  · have h2 := (List.getElem?_eq_some_iff.mp h).1
    rw [List.length_append, List.length_singleton] at h2
    rw [List.getElem?_append_right (by omega), show k - tp.length = 0 by omega] at h
    cases h
    exact Or.inr ⟨by omega, rfl⟩
theorem c_append (P : Nat → Option rs_C) (n s : Nat) (I : Nat → Nat → Int32) (J : Nat → Nat → Int64) (R : Nat → Nat → Option Nat) (d : Nat) (Q : rs_H → Option Value → Prop) (h : CI P n I R D Ds L tp rea) (hl : tp.length < 60) (x : Nat) (hQ : ∀ I', CI P n I' R D Ds L (tp ++ [x]) rea → fC I I' → Q (sk_w P n s I' J R) none) : rs_XM d yX10_append [.ref 43, .int (nI x)] (sk_w P n s I J R) Q := by
  obtain ⟨c1, c2, c3, c4, c5, c6, c7, c8⟩ := h
  rw [em_X10_append]
  simp (disch := omega) only [K_X10_append, lk_X10_append, XI, Nat.reduceAdd, Nat.reduceEqDiff, not_false_eq_true, nI_T1, nI_T0, true_and, and_true, WC, WV, WU, c7, nI_lt0S, nI_leS, nI_cl, rs_in_t, if_false, rs_u2_ne, nI_addS]
  rw [if_neg (by omega)]
  refine hQ _ ⟨c1, c2, c3, ?_, c5, ?_, ?_, ?_⟩ (fC_u (fC_u (fC_r I) (by decide)) (by decide))
  · rw [rs_u2_ne _ _ (by omega), rs_u2_ne _ _ (by omega)]; exact c4
  · rw [rs_u2_ne _ _ (by omega), rs_u2_ne _ _ (by omega)]; exact c6
  · rw [rs_u2_eq, List.length_append, List.length_singleton]
  · intro k v hk
    rcases app_get tp x hk with ⟨e1, e2⟩ | ⟨e1, e2⟩
    · rw [rs_u2_ne _ _ (by omega), rs_u2_ne _ _ (by omega)]
      exact c8 k v e2
    · rw [e1, e2, rs_u2_ne _ _ (by omega), rs_u2_eq]
theorem RI_app {I : Nat → Nat → Int32} (h : RI I D Ds L tp rea) (x : Nat) : RI (rs_u2 (rs_u2 I 65 tp.length (nI x)) 61 9 (nI (tp.length + 1))) D Ds L (tp ++ [x]) rea := by
  obtain ⟨a1, a2, a3, a4, a5, a6, a7, a8⟩ := h
  have e : ∀ q j, ¬ q = 65 → ¬ (q = 61 ∧ j = 9) → rs_u2 (rs_u2 I 65 tp.length (nI x)) 61 9 (nI (tp.length + 1)) q j = I q j := fun q j h1 h2 => by rw [rs_u2_ne _ _ h2, rs_u2_ne _ _ (fun z => h1 z.1)]
  have e62 : rs_u2 (rs_u2 I 65 tp.length (nI x)) 61 9 (nI (tp.length + 1)) 62 = I 62 := funext fun j => e 62 j (by decide) (by omega)
  have e63 : rs_u2 (rs_u2 I 65 tp.length (nI x)) 61 9 (nI (tp.length + 1)) 63 = I 63 := funext fun j => e 63 j (by decide) (by omega)
  refine ⟨by rw [e62]; exact a1, ?_, by rw [e 61 4 (by decide) (by omega)]; exact a3, ?_, by rw [e 61 5 (by decide) (by omega)]; exact a5, ?_, ?_, by rw [e 61 32 (by decide) (by omega), e 61 33 (by decide) (by omega), e 61 34 (by decide) (by omega)]; exact a8⟩
  · unfold rSnap at a2 ⊢
    cases Ds with
    | none => rw [e 61 2 (by decide) (by omega)]; exact a2
    | some X => rw [e 61 2 (by decide) (by omega), e63]; exact a2
  · intro k X hk
    rw [show (fun j => rs_u2 (rs_u2 I 65 tp.length (nI x)) 61 9 (nI (tp.length + 1)) 64 (448 * k + j)) = fun j => I 64 (448 * k + j) from funext fun j => e 64 _ (by decide) (by omega)]
    exact a4 k X hk
  · rw [rs_u2_eq, List.length_append, List.length_singleton]
  · intro k v hk
    rcases app_get tp x hk with ⟨e1, e2⟩ | ⟨e1, e2⟩
    · rw [rs_u2_ne _ _ (by omega), rs_u2_ne _ _ (by omega)]
      exact a7 k v e2
    · rw [e1, e2, rs_u2_ne _ _ (by omega), rs_u2_eq]
theorem X12_feed_l (P : Nat → Option rs_C) (n s : Nat) (J : Nat → Nat → Int64) (R : Nat → Nat → Option Nat) (d : Nat) (Q : rs_H → Option Value → Prop) {m a b c e f : Nat} (hm : m ≤ 5) (hl : tp.length + m ≤ 60) (x7 : Int32) (I0 : Nat → Nat → Int32) (hQ : ∀ I', RI I' D Ds L (tp ++ [a, b, c, e, f].take m) rea → fR I0 I' → Q (sk_w P n s I' J R) (some (.int (nI (tp.length + m))))) : ∀ (j k : Nat) (I : Nat → Nat → Int32), k + j = m → RI I D Ds L (tp ++ [a, b, c, e, f].take k) rea → fR I0 I →
    rs_X d yX12_feed 94 [some (.ref 61), some (.int (nI m)), some (.int (nI a)), some (.int (nI b)), some (.int (nI c)), some (.int (nI e)), some (.int (nI f)), some (.int x7), some (.int (nI k))] [] (sk_w P n s I J R) Q := by
  intro j
  induction j with
  | zero =>
    intro k I hk h hf
    have : k = m := by omega
    subst this
    have h9 := h.2.2.2.2.2.1
    rw [List.length_append, List.length_take, show min k [a, b, c, e, f].length = k by show min k 5 = k; omega] at h9
    rw [g_X12_feed_94]
    simp (disch := omega) only [g_X12_feed_96, g_X12_feed_97, lk_X12_feed, g_X12_feed_168, g_X12_feed_169, g_X12_feed_172, lk_X12_feed, XI, Nat.reduceAdd, Nat.reduceEqDiff, not_false_eq_true, nI_T1, nI_T0, true_and, and_true, WC, WV, WU, nI_leS, Nat.le_refl, if_true, h9]
    exact hQ I h hf
  | succ j ih =>
    intro k I hk h hf
    have h9 := h.2.2.2.2.2.1
    have hl9 : (tp ++ [a, b, c, e, f].take k).length = tp.length + k := by
      rw [List.length_append, List.length_take, show min k [a, b, c, e, f].length = k by show min k 5 = k; omega]
    have ha := fun x => RI_app h x
    rw [hl9] at h9 ha
    have fin : ∀ x, [a, b, c, e, f].take k ++ [x] = [a, b, c, e, f].take (k + 1) → rs_X d yX12_feed 94 [some (.ref 61), some (.int (nI m)), some (.int (nI a)), some (.int (nI b)), some (.int (nI c)), some (.int (nI e)), some (.int (nI f)), some (.int x7), some (.int (nI (k + 1)))] [] (sk_w P n s (rs_u2 (rs_u2 I 65 (tp.length + k) (nI x)) 61 9 (nI (tp.length + k + 1))) J R) Q := by
      intro x hx
      have h2 := ha x
      rw [List.append_assoc, hx] at h2
      exact ih (k + 1) _ (by omega) h2 (fR_u (fR_u hf (by decide)) (by decide))
    rw [g_X12_feed_94]
    have hk5 : k = 0 ∨ k = 1 ∨ k = 2 ∨ k = 3 ∨ k = 4 := by omega
    rcases hk5 with e0 | e0 | e0 | e0 | e0
    all_goals
      subst e0
      simp (disch := omega) only [g_X12_feed_96, g_X12_feed_97, g_X12_feed_100, g_X12_feed_101, g_X12_feed_104, g_X12_feed_105, g_X12_feed_108, g_X12_feed_110, g_X12_feed_113, g_X12_feed_114, g_X12_feed_117, g_X12_feed_119, g_X12_feed_120, g_X12_feed_123, g_X12_feed_124, g_X12_feed_127, g_X12_feed_129, g_X12_feed_130, g_X12_feed_133, g_X12_feed_135, g_X12_feed_138, g_X12_feed_140, g_X12_feed_141, g_X12_feed_144, g_X12_feed_146, g_X12_feed_149, g_X12_feed_151, g_X12_feed_152, g_X12_feed_153, g_X12_feed_154, g_X12_feed_157, g_X12_feed_158, g_X12_feed_159, g_X12_feed_162, g_X12_feed_165, lk_X12_feed, XI, Nat.reduceAdd, Nat.reduceEqDiff, not_false_eq_true, nI_T1, nI_T0, true_and, and_true, WC, WV, WU, rs_b_0, rs_b_ok2, true_or, or_true, Classical.not_not, not_true_eq_false, if_true, if_false, reduceCtorEq, nI_leS, h9, nI_eq0S, nI_eqS, Nat.reduceEqDiff, nI_cl, rs_in_t, rs_u2_ne, nI_addS]
      rw [if_neg (by omega)]
      exact fin _ rfl
theorem b_feed (hS : SOk D Ds L tp) (x0 x1 x2 x3 x4 x5 : Int32) : BC yX11_feed yX12_feed [.int x0, .int x1, .int x2, .int x3, .int x4, .int x5] D Ds L tp rea := by
  by_cases c0 : nI 1 ≤ x0 ∧ x0 ≤ nI 5
  · by_cases c1 : nI 0 ≤ x1 ∧ x1 ≤ nI 127
    · by_cases c2 : nI 0 ≤ x2 ∧ x2 ≤ nI 127
      · by_cases c3 : nI 0 ≤ x3 ∧ x3 ≤ nI 127
        · by_cases c4 : nI 0 ≤ x4 ∧ x4 ≤ nI 127
          · by_cases c5 : nI 0 ≤ x5 ∧ x5 ≤ nI 127
            · obtain ⟨m, hm1, hm, rfl⟩ := (nI_within (by decide) (by decide)).mp c0
              obtain ⟨a, -, ha, rfl⟩ := (nI_within (by decide) (by decide)).mp c1
              obtain ⟨b, -, hb, rfl⟩ := (nI_within (by decide) (by decide)).mp c2
              obtain ⟨c, -, hc, rfl⟩ := (nI_within (by decide) (by decide)).mp c3
              obtain ⟨e, -, he, rfl⟩ := (nI_within (by decide) (by decide)).mp c4
              obtain ⟨f, -, hf, rfl⟩ := (nI_within (by decide) (by decide)).mp c5
              have hl := hS.2.2.2.2.1
              by_cases hfull : tp.length + m ≤ 60
              · have hS' : SOk D Ds L (tp ++ [a, b, c, e, f].take m) := by
                  refine ⟨hS.1, hS.2.1, hS.2.2.1, hS.2.2.2.1, ?_, ?_⟩
                  · rw [List.length_append, List.length_take, show min m [a, b, c, e, f].length = m by show min m 5 = m; omega]
                    exact hfull
                  · intro k v hk
                    by_cases e1 : k < tp.length
                    · rw [List.getElem?_append_left e1] at hk
                      exact hS.2.2.2.2.2 k v hk
                    · rw [List.getElem?_append_right (by omega), List.getElem?_take] at hk
                      split at hk
                      · have h2 := List.mem_of_getElem? hk
                        simp only [List.mem_cons, List.not_mem_nil, or_false] at h2
                        omega
                      · cases hk
                refine ⟨D, Ds, L, tp ++ [a, b, c, e, f].take m, rea, .int (nI (tp.length + m)), hS', fun d P n s I J R Q h hQ => ?_, fun d P n s I J R Q g8 h hQ => ?_, Or.inl ⟨_, rfl⟩⟩
                · have c7 := h.2.2.2.2.2.2.1
                  rw [em_X11_feed]
                  simp (disch := omega) only [g_X11_feed_0, g_X11_feed_1, g_X11_feed_2, g_X11_feed_3, g_X11_feed_6, g_X11_feed_9, g_X11_feed_10, g_X11_feed_13, g_X11_feed_16, g_X11_feed_17, g_X11_feed_20, g_X11_feed_23, g_X11_feed_25, g_X11_feed_28, g_X11_feed_31, g_X11_feed_33, g_X11_feed_36, g_X11_feed_39, g_X11_feed_41, g_X11_feed_44, g_X11_feed_47, g_X11_feed_49, g_X11_feed_50, g_X11_feed_51, g_X11_feed_54, g_X11_feed_57, g_X11_feed_58, g_X11_feed_59, g_X11_feed_61, g_X11_feed_64, g_X11_feed_66, g_X11_feed_67, g_X11_feed_68, g_X11_feed_71, g_X11_feed_72, lk_X11_feed, em_X10_length, K_X10_length, lk_X10_length, XI, Nat.reduceAdd, Nat.reduceEqDiff, not_false_eq_true, nI_T1, nI_T0, true_and, and_true, WC, WV, WU, rs_b_0, rs_b_ok2, true_or, or_true, Classical.not_not, not_true_eq_false, if_true, if_false, reduceCtorEq, s_X11_isWithin, s_X11_isByte, c0, c1, c2, c3, c4, c5, c7, nI_addS, nI_leS]
                  rw [if_pos hfull]
                  refine c_append P n s I J R _ _ h (by omega) a ?_
                  intro I1 h1 f1
                  have fin : ∀ I', CI P n I' R D Ds L (tp ++ [a, b, c, e, f].take m) rea → fC I I' → rs_X (d + 59 + 1) yX11_feed 130 [some (.ref 1), some (.int (nI m)), some (.int (nI a)), some (.int (nI b)), some (.int (nI c)), some (.int (nI e)), some (.int (nI f))] [] (sk_w P n s I' J R) Q := by
                    intro I' h' f'
                    have c7' := h'.2.2.2.2.2.2.1
                    rw [List.length_append, List.length_take, show min m [a, b, c, e, f].length = m by show min m 5 = m; omega] at c7'
                    simp (disch := omega) only [g_X11_feed_130, g_X11_feed_131, g_X11_feed_134, g_X11_feed_137, lk_X11_feed, em_X10_length, K_X10_length, lk_X10_length, XI, Nat.reduceAdd, Nat.reduceEqDiff, not_false_eq_true, nI_T1, nI_T0, true_and, and_true, WC, WV, WU, c7']
                    exact hQ P n s I' J R h' f' (fC_r J) (by omega) (by omega)
                  have hap : ∀ (l : List Nat) (x : Nat), (tp ++ l) ++ [x] = tp ++ (l ++ [x]) := fun l x => List.append_assoc _ _ _
                  simp (disch := omega) only [g_X11_feed_75, g_X11_feed_76, g_X11_feed_77, lk_X11_feed, XI, Nat.reduceAdd, Nat.reduceEqDiff, not_false_eq_true, nI_T1, nI_T0, true_and, and_true, WC, WV, WU, nI_leS]
                  by_cases k1 : m ≤ 1
                  · have hm' : m = 1 := by omega
                    rw [if_pos k1]
                    simp (disch := omega) only [g_X11_feed_88, g_X11_feed_89, g_X11_feed_90, g_X11_feed_93, g_X11_feed_94, g_X11_feed_97, g_X11_feed_99, g_X11_feed_102, g_X11_feed_103, g_X11_feed_104, g_X11_feed_107, g_X11_feed_108, g_X11_feed_111, g_X11_feed_113, g_X11_feed_116, g_X11_feed_117, g_X11_feed_118, lk_X11_feed, XI, Nat.reduceAdd, Nat.reduceEqDiff, not_false_eq_true, nI_T1, nI_T0, true_and, and_true, WC, WV, WU, nI_leS, hm', Nat.reduceLeDiff, if_true]
                    rw [hm'] at fin
                    exact fin I1 h1 f1
                  rw [if_neg k1]
                  simp (disch := omega) only [g_X11_feed_80, g_X11_feed_81, g_X11_feed_84, g_X11_feed_85, lk_X11_feed, XI, Nat.reduceAdd, Nat.reduceEqDiff, not_false_eq_true, nI_T1, nI_T0, true_and, and_true, WC, WV, WU]
                  refine c_append P n s I1 J R _ _ h1 (by rw [List.length_append, List.length_singleton]; omega) b ?_
                  intro I2 h2 f2
                  rw [hap] at h2
                  simp (disch := omega) only [g_X11_feed_88, g_X11_feed_89, g_X11_feed_90, lk_X11_feed, XI, Nat.reduceAdd, Nat.reduceEqDiff, not_false_eq_true, nI_T1, nI_T0, true_and, and_true, WC, WV, WU, nI_leS]
                  by_cases k2 : m ≤ 2
                  · have hm' : m = 2 := by omega
                    rw [if_pos k2]
                    simp (disch := omega) only [g_X11_feed_102, g_X11_feed_103, g_X11_feed_104, g_X11_feed_107, g_X11_feed_108, g_X11_feed_111, g_X11_feed_113, g_X11_feed_116, g_X11_feed_117, g_X11_feed_118, lk_X11_feed, XI, Nat.reduceAdd, Nat.reduceEqDiff, not_false_eq_true, nI_T1, nI_T0, true_and, and_true, WC, WV, WU, nI_leS, hm', Nat.reduceLeDiff, if_true]
                    rw [hm'] at fin
                    exact fin I2 h2 (fC_t f1 f2)
                  rw [if_neg k2]
                  simp (disch := omega) only [g_X11_feed_93, g_X11_feed_94, g_X11_feed_97, g_X11_feed_99, lk_X11_feed, XI, Nat.reduceAdd, Nat.reduceEqDiff, not_false_eq_true, nI_T1, nI_T0, true_and, and_true, WC, WV, WU]
                  refine c_append P n s I2 J R _ _ h2 (by rw [List.length_append]; show tp.length + 2 < 60; omega) c ?_
                  intro I3 h3 f3
                  rw [hap] at h3
                  simp (disch := omega) only [g_X11_feed_102, g_X11_feed_103, g_X11_feed_104, lk_X11_feed, XI, Nat.reduceAdd, Nat.reduceEqDiff, not_false_eq_true, nI_T1, nI_T0, true_and, and_true, WC, WV, WU, nI_leS]
                  by_cases k3 : m ≤ 3
                  · have hm' : m = 3 := by omega
                    rw [if_pos k3]
                    simp (disch := omega) only [g_X11_feed_116, g_X11_feed_117, g_X11_feed_118, lk_X11_feed, XI, Nat.reduceAdd, Nat.reduceEqDiff, not_false_eq_true, nI_T1, nI_T0, true_and, and_true, WC, WV, WU, nI_leS, hm', Nat.reduceLeDiff, if_true]
                    rw [hm'] at fin
                    exact fin I3 h3 (fC_t (fC_t f1 f2) f3)
                  rw [if_neg k3]
                  simp (disch := omega) only [g_X11_feed_107, g_X11_feed_108, g_X11_feed_111, g_X11_feed_113, lk_X11_feed, XI, Nat.reduceAdd, Nat.reduceEqDiff, not_false_eq_true, nI_T1, nI_T0, true_and, and_true, WC, WV, WU]
                  refine c_append P n s I3 J R _ _ h3 (by rw [List.length_append]; show tp.length + 3 < 60; omega) e ?_
                  intro I4 h4 f4
                  rw [hap] at h4
                  simp (disch := omega) only [g_X11_feed_116, g_X11_feed_117, g_X11_feed_118, lk_X11_feed, XI, Nat.reduceAdd, Nat.reduceEqDiff, not_false_eq_true, nI_T1, nI_T0, true_and, and_true, WC, WV, WU, nI_leS]
                  by_cases k4 : m ≤ 4
                  · have hm' : m = 4 := by omega
                    rw [if_pos k4]
                    rw [hm'] at fin ⊢
                    exact fin I4 h4 (fC_t (fC_t (fC_t f1 f2) f3) f4)
                  have hm' : m = 5 := by omega
                  rw [if_neg k4]
                  simp (disch := omega) only [g_X11_feed_121, g_X11_feed_122, g_X11_feed_125, g_X11_feed_127, lk_X11_feed, XI, Nat.reduceAdd, Nat.reduceEqDiff, not_false_eq_true, nI_T1, nI_T0, true_and, and_true, WC, WV, WU]
                  refine c_append P n s I4 J R _ _ h4 (by rw [List.length_append]; show tp.length + 4 < 60; omega) f ?_
                  intro I5 h5 f5
                  rw [hap] at h5
                  simp (disch := omega) only [XI, Nat.reduceAdd, Nat.reduceEqDiff, not_false_eq_true, nI_T1, nI_T0, true_and, and_true]
                  rw [hm'] at fin ⊢
                  exact fin I5 h5 (fC_t (fC_t (fC_t (fC_t f1 f2) f3) f4) f5)
                · have h9 := h.2.2.2.2.2.1
                  rw [em_X12_feed]
                  simp (disch := omega) only [g_X12_feed_0, g_X12_feed_1, g_X12_feed_2, g_X12_feed_3, g_X12_feed_6, g_X12_feed_9, g_X12_feed_10, g_X12_feed_11, g_X12_feed_13, g_X12_feed_16, g_X12_feed_19, g_X12_feed_20, g_X12_feed_21, g_X12_feed_23, g_X12_feed_26, g_X12_feed_29, g_X12_feed_31, g_X12_feed_32, g_X12_feed_34, g_X12_feed_37, g_X12_feed_40, g_X12_feed_42, g_X12_feed_43, g_X12_feed_45, g_X12_feed_48, g_X12_feed_51, g_X12_feed_53, g_X12_feed_54, g_X12_feed_56, g_X12_feed_59, g_X12_feed_62, g_X12_feed_63, g_X12_feed_66, g_X12_feed_67, g_X12_feed_69, g_X12_feed_71, g_X12_feed_74, g_X12_feed_76, g_X12_feed_77, g_X12_feed_78, g_X12_feed_81, g_X12_feed_82, g_X12_feed_83, g_X12_feed_85, g_X12_feed_88, g_X12_feed_90, g_X12_feed_91, g_X12_feed_92, lk_X12_feed, XI, Nat.reduceAdd, Nat.reduceEqDiff, not_false_eq_true, nI_T1, nI_T0, true_and, and_true, WC, WV, WU, rs_b_0, rs_b_ok2, true_or, or_true, Classical.not_not, not_true_eq_false, if_true, if_false, reduceCtorEq, s_X12_in, c0, c1, c2, c3, c4, c5, h9, nI_addS, nI_leS, show (nI 1 = 0) ↔ False from ⟨fun z => absurd z (by decide), fun z => z.elim⟩]
                  rw [if_pos hfull]
                  refine X12_feed_l P n s J R (d + 60) Q hm hfull _ I (fun I' h' f' => hQ I' J h' f' (fR_r J)) m 0 I (Nat.zero_add m) ?_ (fR_r I)
                  rw [List.take_zero, List.append_nil]
                  exact h
              · refine BC_same hS (.int (-4)) (Or.inl ⟨_, rfl⟩) (fun d P n s I J R Q h hQ => ?_) (fun d P n s I J R Q h hQ => ?_)
                · have c7 := h.2.2.2.2.2.2.1
                  rw [em_X11_feed]
                  simp (disch := omega) only [g_X11_feed_0, g_X11_feed_1, g_X11_feed_2, g_X11_feed_3, g_X11_feed_6, g_X11_feed_9, g_X11_feed_10, g_X11_feed_13, g_X11_feed_16, g_X11_feed_17, g_X11_feed_20, g_X11_feed_23, g_X11_feed_25, g_X11_feed_28, g_X11_feed_31, g_X11_feed_33, g_X11_feed_36, g_X11_feed_39, g_X11_feed_41, g_X11_feed_44, g_X11_feed_47, g_X11_feed_49, g_X11_feed_50, g_X11_feed_51, g_X11_feed_54, g_X11_feed_57, g_X11_feed_58, g_X11_feed_59, g_X11_feed_61, g_X11_feed_64, g_X11_feed_66, lk_X11_feed, em_X10_length, K_X10_length, lk_X10_length, XI, Nat.reduceAdd, Nat.reduceEqDiff, not_false_eq_true, nI_T1, nI_T0, true_and, and_true, WC, WV, WU, rs_b_0, rs_b_ok2, true_or, or_true, Classical.not_not, not_true_eq_false, if_true, if_false, reduceCtorEq, s_X11_isWithin, s_X11_isByte, c0, c1, c2, c3, c4, c5, c7, nI_addS, nI_leS, hfull]
                  exact hQ
                · have h9 := h.2.2.2.2.2.1
                  rw [em_X12_feed]
                  simp (disch := omega) only [g_X12_feed_0, g_X12_feed_1, g_X12_feed_2, g_X12_feed_3, g_X12_feed_6, g_X12_feed_9, g_X12_feed_10, g_X12_feed_11, g_X12_feed_13, g_X12_feed_16, g_X12_feed_19, g_X12_feed_20, g_X12_feed_21, g_X12_feed_23, g_X12_feed_26, g_X12_feed_29, g_X12_feed_31, g_X12_feed_32, g_X12_feed_34, g_X12_feed_37, g_X12_feed_40, g_X12_feed_42, g_X12_feed_43, g_X12_feed_45, g_X12_feed_48, g_X12_feed_51, g_X12_feed_53, g_X12_feed_54, g_X12_feed_56, g_X12_feed_59, g_X12_feed_62, g_X12_feed_63, g_X12_feed_66, g_X12_feed_67, g_X12_feed_69, g_X12_feed_71, g_X12_feed_74, g_X12_feed_76, g_X12_feed_77, g_X12_feed_78, g_X12_feed_81, g_X12_feed_82, g_X12_feed_83, g_X12_feed_85, g_X12_feed_88, g_X12_feed_90, lk_X12_feed, XI, Nat.reduceAdd, Nat.reduceEqDiff, not_false_eq_true, nI_T1, nI_T0, true_and, and_true, WC, WV, WU, rs_b_0, rs_b_ok2, true_or, or_true, Classical.not_not, not_true_eq_false, if_true, if_false, reduceCtorEq, s_X12_in, c0, c1, c2, c3, c4, c5, h9, nI_addS, nI_leS, hfull, show (nI 1 = 0) ↔ False from ⟨fun z => absurd z (by decide), fun z => z.elim⟩]
                  exact hQ
            · refine BC_same hS (.int (-2)) (Or.inl ⟨_, rfl⟩) (fun d P n s I J R Q h hQ => ?_) (fun d P n s I J R Q h hQ => ?_)
              · rw [em_X11_feed]
                simp (disch := omega) only [g_X11_feed_0, g_X11_feed_1, g_X11_feed_2, g_X11_feed_3, g_X11_feed_6, g_X11_feed_9, g_X11_feed_10, g_X11_feed_13, g_X11_feed_16, g_X11_feed_17, g_X11_feed_20, g_X11_feed_23, g_X11_feed_25, g_X11_feed_28, g_X11_feed_31, g_X11_feed_33, g_X11_feed_36, g_X11_feed_39, g_X11_feed_41, g_X11_feed_44, g_X11_feed_47, g_X11_feed_49, lk_X11_feed, XI, Nat.reduceAdd, Nat.reduceEqDiff, not_false_eq_true, nI_T1, nI_T0, true_and, and_true, WC, WV, WU, rs_b_0, rs_b_ok2, true_or, or_true, Classical.not_not, not_true_eq_false, if_true, if_false, reduceCtorEq, s_X11_isWithin, s_X11_isByte, c0, c1, c2, c3, c4, c5]
                exact hQ
              · rw [em_X12_feed]
                simp (disch := omega) only [g_X12_feed_0, g_X12_feed_1, g_X12_feed_2, g_X12_feed_3, g_X12_feed_6, g_X12_feed_9, g_X12_feed_10, g_X12_feed_11, g_X12_feed_13, g_X12_feed_16, g_X12_feed_19, g_X12_feed_20, g_X12_feed_21, g_X12_feed_23, g_X12_feed_26, g_X12_feed_29, g_X12_feed_31, g_X12_feed_32, g_X12_feed_34, g_X12_feed_37, g_X12_feed_40, g_X12_feed_42, g_X12_feed_43, g_X12_feed_45, g_X12_feed_48, g_X12_feed_51, g_X12_feed_53, g_X12_feed_54, g_X12_feed_56, g_X12_feed_59, g_X12_feed_62, g_X12_feed_63, g_X12_feed_66, g_X12_feed_67, g_X12_feed_69, g_X12_feed_71, g_X12_feed_74, g_X12_feed_76, lk_X12_feed, XI, Nat.reduceAdd, Nat.reduceEqDiff, not_false_eq_true, nI_T1, nI_T0, true_and, and_true, WC, WV, WU, rs_b_0, rs_b_ok2, true_or, or_true, Classical.not_not, not_true_eq_false, if_true, if_false, reduceCtorEq, s_X12_in, c0, c1, c2, c3, c4, c5, nI_00]
                exact hQ
          · refine BC_same hS (.int (-2)) (Or.inl ⟨_, rfl⟩) (fun d P n s I J R Q h hQ => ?_) (fun d P n s I J R Q h hQ => ?_)
            · rw [em_X11_feed]
              simp (disch := omega) only [g_X11_feed_0, g_X11_feed_1, g_X11_feed_2, g_X11_feed_3, g_X11_feed_6, g_X11_feed_9, g_X11_feed_10, g_X11_feed_13, g_X11_feed_16, g_X11_feed_17, g_X11_feed_20, g_X11_feed_23, g_X11_feed_25, g_X11_feed_28, g_X11_feed_31, g_X11_feed_33, g_X11_feed_36, g_X11_feed_39, g_X11_feed_41, g_X11_feed_44, g_X11_feed_47, g_X11_feed_49, lk_X11_feed, XI, Nat.reduceAdd, Nat.reduceEqDiff, not_false_eq_true, nI_T1, nI_T0, true_and, and_true, WC, WV, WU, rs_b_0, rs_b_ok2, true_or, or_true, Classical.not_not, not_true_eq_false, if_true, if_false, reduceCtorEq, s_X11_isWithin, s_X11_isByte, c0, c1, c2, c3, c4]
              exact hQ
            · rw [em_X12_feed]
              simp (disch := omega) only [g_X12_feed_0, g_X12_feed_1, g_X12_feed_2, g_X12_feed_3, g_X12_feed_6, g_X12_feed_9, g_X12_feed_10, g_X12_feed_11, g_X12_feed_13, g_X12_feed_16, g_X12_feed_19, g_X12_feed_20, g_X12_feed_21, g_X12_feed_23, g_X12_feed_26, g_X12_feed_29, g_X12_feed_31, g_X12_feed_32, g_X12_feed_34, g_X12_feed_37, g_X12_feed_40, g_X12_feed_42, g_X12_feed_43, g_X12_feed_45, g_X12_feed_48, g_X12_feed_51, g_X12_feed_53, g_X12_feed_54, g_X12_feed_56, g_X12_feed_59, g_X12_feed_62, g_X12_feed_63, g_X12_feed_66, g_X12_feed_67, g_X12_feed_69, g_X12_feed_71, g_X12_feed_74, g_X12_feed_76, lk_X12_feed, XI, Nat.reduceAdd, Nat.reduceEqDiff, not_false_eq_true, nI_T1, nI_T0, true_and, and_true, WC, WV, WU, rs_b_0, rs_b_ok2, true_or, or_true, Classical.not_not, not_true_eq_false, if_true, if_false, reduceCtorEq, s_X12_in, c0, c1, c2, c3, c4, nI_00]
              exact hQ
        · refine BC_same hS (.int (-2)) (Or.inl ⟨_, rfl⟩) (fun d P n s I J R Q h hQ => ?_) (fun d P n s I J R Q h hQ => ?_)
          · rw [em_X11_feed]
            simp (disch := omega) only [g_X11_feed_0, g_X11_feed_1, g_X11_feed_2, g_X11_feed_3, g_X11_feed_6, g_X11_feed_9, g_X11_feed_10, g_X11_feed_13, g_X11_feed_16, g_X11_feed_17, g_X11_feed_20, g_X11_feed_23, g_X11_feed_25, g_X11_feed_28, g_X11_feed_31, g_X11_feed_33, g_X11_feed_36, g_X11_feed_39, g_X11_feed_41, g_X11_feed_44, g_X11_feed_47, g_X11_feed_49, lk_X11_feed, XI, Nat.reduceAdd, Nat.reduceEqDiff, not_false_eq_true, nI_T1, nI_T0, true_and, and_true, WC, WV, WU, rs_b_0, rs_b_ok2, true_or, or_true, Classical.not_not, not_true_eq_false, if_true, if_false, reduceCtorEq, s_X11_isWithin, s_X11_isByte, c0, c1, c2, c3]
            exact hQ
          · rw [em_X12_feed]
            simp (disch := omega) only [g_X12_feed_0, g_X12_feed_1, g_X12_feed_2, g_X12_feed_3, g_X12_feed_6, g_X12_feed_9, g_X12_feed_10, g_X12_feed_11, g_X12_feed_13, g_X12_feed_16, g_X12_feed_19, g_X12_feed_20, g_X12_feed_21, g_X12_feed_23, g_X12_feed_26, g_X12_feed_29, g_X12_feed_31, g_X12_feed_32, g_X12_feed_34, g_X12_feed_37, g_X12_feed_40, g_X12_feed_42, g_X12_feed_43, g_X12_feed_45, g_X12_feed_48, g_X12_feed_51, g_X12_feed_53, g_X12_feed_54, g_X12_feed_56, g_X12_feed_59, g_X12_feed_62, g_X12_feed_63, g_X12_feed_66, g_X12_feed_67, g_X12_feed_69, g_X12_feed_71, g_X12_feed_74, g_X12_feed_76, lk_X12_feed, XI, Nat.reduceAdd, Nat.reduceEqDiff, not_false_eq_true, nI_T1, nI_T0, true_and, and_true, WC, WV, WU, rs_b_0, rs_b_ok2, true_or, or_true, Classical.not_not, not_true_eq_false, if_true, if_false, reduceCtorEq, s_X12_in, c0, c1, c2, c3, nI_00]
            exact hQ
      · refine BC_same hS (.int (-2)) (Or.inl ⟨_, rfl⟩) (fun d P n s I J R Q h hQ => ?_) (fun d P n s I J R Q h hQ => ?_)
        · rw [em_X11_feed]
          simp (disch := omega) only [g_X11_feed_0, g_X11_feed_1, g_X11_feed_2, g_X11_feed_3, g_X11_feed_6, g_X11_feed_9, g_X11_feed_10, g_X11_feed_13, g_X11_feed_16, g_X11_feed_17, g_X11_feed_20, g_X11_feed_23, g_X11_feed_25, g_X11_feed_28, g_X11_feed_31, g_X11_feed_33, g_X11_feed_36, g_X11_feed_39, g_X11_feed_41, g_X11_feed_44, g_X11_feed_47, g_X11_feed_49, lk_X11_feed, XI, Nat.reduceAdd, Nat.reduceEqDiff, not_false_eq_true, nI_T1, nI_T0, true_and, and_true, WC, WV, WU, rs_b_0, rs_b_ok2, true_or, or_true, Classical.not_not, not_true_eq_false, if_true, if_false, reduceCtorEq, s_X11_isWithin, s_X11_isByte, c0, c1, c2]
          exact hQ
        · rw [em_X12_feed]
          simp (disch := omega) only [g_X12_feed_0, g_X12_feed_1, g_X12_feed_2, g_X12_feed_3, g_X12_feed_6, g_X12_feed_9, g_X12_feed_10, g_X12_feed_11, g_X12_feed_13, g_X12_feed_16, g_X12_feed_19, g_X12_feed_20, g_X12_feed_21, g_X12_feed_23, g_X12_feed_26, g_X12_feed_29, g_X12_feed_31, g_X12_feed_32, g_X12_feed_34, g_X12_feed_37, g_X12_feed_40, g_X12_feed_42, g_X12_feed_43, g_X12_feed_45, g_X12_feed_48, g_X12_feed_51, g_X12_feed_53, g_X12_feed_54, g_X12_feed_56, g_X12_feed_59, g_X12_feed_62, g_X12_feed_63, g_X12_feed_66, g_X12_feed_67, g_X12_feed_69, g_X12_feed_71, g_X12_feed_74, g_X12_feed_76, lk_X12_feed, XI, Nat.reduceAdd, Nat.reduceEqDiff, not_false_eq_true, nI_T1, nI_T0, true_and, and_true, WC, WV, WU, rs_b_0, rs_b_ok2, true_or, or_true, Classical.not_not, not_true_eq_false, if_true, if_false, reduceCtorEq, s_X12_in, c0, c1, c2, nI_00]
          exact hQ
    · refine BC_same hS (.int (-2)) (Or.inl ⟨_, rfl⟩) (fun d P n s I J R Q h hQ => ?_) (fun d P n s I J R Q h hQ => ?_)
      · rw [em_X11_feed]
        simp (disch := omega) only [g_X11_feed_0, g_X11_feed_1, g_X11_feed_2, g_X11_feed_3, g_X11_feed_6, g_X11_feed_9, g_X11_feed_10, g_X11_feed_13, g_X11_feed_16, g_X11_feed_17, g_X11_feed_20, g_X11_feed_23, g_X11_feed_25, g_X11_feed_28, g_X11_feed_31, g_X11_feed_33, g_X11_feed_36, g_X11_feed_39, g_X11_feed_41, g_X11_feed_44, g_X11_feed_47, g_X11_feed_49, lk_X11_feed, XI, Nat.reduceAdd, Nat.reduceEqDiff, not_false_eq_true, nI_T1, nI_T0, true_and, and_true, WC, WV, WU, rs_b_0, rs_b_ok2, true_or, or_true, Classical.not_not, not_true_eq_false, if_true, if_false, reduceCtorEq, s_X11_isWithin, s_X11_isByte, c0, c1]
        exact hQ
      · rw [em_X12_feed]
        simp (disch := omega) only [g_X12_feed_0, g_X12_feed_1, g_X12_feed_2, g_X12_feed_3, g_X12_feed_6, g_X12_feed_9, g_X12_feed_10, g_X12_feed_11, g_X12_feed_13, g_X12_feed_16, g_X12_feed_19, g_X12_feed_20, g_X12_feed_21, g_X12_feed_23, g_X12_feed_26, g_X12_feed_29, g_X12_feed_31, g_X12_feed_32, g_X12_feed_34, g_X12_feed_37, g_X12_feed_40, g_X12_feed_42, g_X12_feed_43, g_X12_feed_45, g_X12_feed_48, g_X12_feed_51, g_X12_feed_53, g_X12_feed_54, g_X12_feed_56, g_X12_feed_59, g_X12_feed_62, g_X12_feed_63, g_X12_feed_66, g_X12_feed_67, g_X12_feed_69, g_X12_feed_71, g_X12_feed_74, g_X12_feed_76, lk_X12_feed, XI, Nat.reduceAdd, Nat.reduceEqDiff, not_false_eq_true, nI_T1, nI_T0, true_and, and_true, WC, WV, WU, rs_b_0, rs_b_ok2, true_or, or_true, Classical.not_not, not_true_eq_false, if_true, if_false, reduceCtorEq, s_X12_in, c0, c1, nI_00]
        exact hQ
  · refine BC_same hS (.int (-2)) (Or.inl ⟨_, rfl⟩) (fun d P n s I J R Q h hQ => ?_) (fun d P n s I J R Q h hQ => ?_)
    · rw [em_X11_feed]
      simp (disch := omega) only [g_X11_feed_0, g_X11_feed_1, g_X11_feed_2, g_X11_feed_3, g_X11_feed_6, g_X11_feed_9, g_X11_feed_10, g_X11_feed_13, g_X11_feed_16, g_X11_feed_17, g_X11_feed_20, g_X11_feed_23, g_X11_feed_25, g_X11_feed_28, g_X11_feed_31, g_X11_feed_33, g_X11_feed_36, g_X11_feed_39, g_X11_feed_41, g_X11_feed_44, g_X11_feed_47, g_X11_feed_49, lk_X11_feed, XI, Nat.reduceAdd, Nat.reduceEqDiff, not_false_eq_true, nI_T1, nI_T0, true_and, and_true, WC, WV, WU, rs_b_0, rs_b_ok2, true_or, or_true, Classical.not_not, not_true_eq_false, if_true, if_false, reduceCtorEq, s_X11_isWithin, s_X11_isByte, c0]
      exact hQ
    · rw [em_X12_feed]
      simp (disch := omega) only [g_X12_feed_0, g_X12_feed_1, g_X12_feed_2, g_X12_feed_3, g_X12_feed_6, g_X12_feed_9, g_X12_feed_10, g_X12_feed_11, g_X12_feed_13, g_X12_feed_16, g_X12_feed_19, g_X12_feed_20, g_X12_feed_21, g_X12_feed_23, g_X12_feed_26, g_X12_feed_29, g_X12_feed_31, g_X12_feed_32, g_X12_feed_34, g_X12_feed_37, g_X12_feed_40, g_X12_feed_42, g_X12_feed_43, g_X12_feed_45, g_X12_feed_48, g_X12_feed_51, g_X12_feed_53, g_X12_feed_54, g_X12_feed_56, g_X12_feed_59, g_X12_feed_62, g_X12_feed_63, g_X12_feed_66, g_X12_feed_67, g_X12_feed_69, g_X12_feed_71, g_X12_feed_74, g_X12_feed_76, lk_X12_feed, XI, Nat.reduceAdd, Nat.reduceEqDiff, not_false_eq_true, nI_T1, nI_T0, true_and, and_true, WC, WV, WU, rs_b_0, rs_b_ok2, true_or, or_true, Classical.not_not, not_true_eq_false, if_true, if_false, reduceCtorEq, s_X12_in, c0, nI_00]
      exact hQ
end
