/-! the reference reads items and recipes -/
def RW (I : Nat → Nat → Int32) (l : List It) : Prop := I 66 0 = nI 1 ∧ I 66 1 = nI l.length ∧ I 66 5 = nI 0 ∧ ∀ (k : Nat) (t : It), l[k]? = some t → mIt (I 66) (6 + 4 * k) t
section
variable {tp : List Nat} (P : Nat → Option rs_C) (n s : Nat) (R : Nat → Nat → Option Nat) (d : Nat) (Q : rs_H → Option Value → Prop)
theorem r_item (I : Nat → Nat → Int32) (J : Nat → Nat → Int64) (hT : TI I tp) (h8 : I 61 8 = nI 0) {p : Nat} (hp : p ≤ tp.length) {acc : List It} (hl : acc.length < 6) (hR : RW I acc)
    (hg : ∀ t I' J', (pIt tp p).2 = some t → RW I' (acc ++ [t]) → fW I I' → fK J J' → Q (sk_w P n s (WR I' (pIt tp p).1 0) J' R) none)
    (hw : ∀ I' J', (pIt tp p).2 = none → fW I I' → fK J J' → Q (sk_w P n s (WR I' (pIt tp p).1 1) J' R) none) :
    rs_XM (d + 4) yX12_readItem [.ref 61] (sk_w P n s (WR I p 0) J R) Q := by
  have h4 := hT.2.2.2
  obtain ⟨w0, w1, w5, w6⟩ := id hR
  have h1 := pAm_le (tp := tp) hp
  generalize hk : acc.length = k at *
  rw [em_X12_readItem]
  simp (disch := omega) only [g_X12_readItem_0, g_X12_readItem_2, g_X12_readItem_3, g_X12_readItem_4, g_X12_readItem_7, g_X12_readItem_8, g_X12_readItem_9, g_X12_readItem_10, g_X12_readItem_11, g_X12_readItem_12, g_X12_readItem_13, g_X12_readItem_14, lk_X12_readItem, XI, Nat.reduceAdd, Nat.reduceEqDiff, not_false_eq_true, nI_T1, nI_T0, true_and, and_true, WC, WV, WU, WR_ne, w1, nI_mulS, nI_addS, nI_cl, rs_in_t]
  unfold pIt at hg hw
  refine r_amount P n s I J R d _ hT h8 hp (Nat.zero_le 1) (show 6 + 4 * k + 2 < 30 by omega) ?_ ?_
  · intro f kk J1 _ e1 f1
    rw [e1] at hg hw
    dsimp only at hg hw
    have hf := h1.2 _ e1
    have hkk : kk ≤ 2 := hf.2
    generalize hI1 : rs_u2 (rs_u2 (rs_u2 I 66 (6 + 4 * k) (nI (lw f).1)) 66 (6 + 4 * k + 1) (nI (lw f).2)) 66 (6 + 4 * k + 2) (nI kk) = I1
    have fw1 : fW I I1 := fun q j e => by rw [← hI1, rs_u2_ne _ _ (fun z => e z.1), rs_u2_ne _ _ (fun z => e z.1), rs_u2_ne _ _ (fun z => e z.1)]
    have hT1 := TI_f hT fw1
    have i1 : ∀ j, (j < 6 + 4 * k ∨ 6 + 4 * k + 3 ≤ j) → I1 66 j = I 66 j := fun j h => by rw [← hI1, rs_u2_ne _ _ (by omega), rs_u2_ne _ _ (by omega), rs_u2_ne _ _ (by omega)]
    have j0 : I1 66 (6 + 4 * k) = nI (lw f).1 := by rw [← hI1, rs_u2_ne _ _ (by omega), rs_u2_ne _ _ (by omega), rs_u2_eq]
    have j1 : I1 66 (6 + 4 * k + 1) = nI (lw f).2 := by rw [← hI1, rs_u2_ne _ _ (by omega), rs_u2_eq]
    have j2 : I1 66 (6 + 4 * k + 2) = nI kk := by rw [← hI1, rs_u2_eq]
    have k1 : I1 66 1 = nI k := by rw [i1 1 (by omega)]; exact w1
    have fin : ∀ so, so < 20 → (pSo tp (pAm tp p).1).2 = some so → Q (sk_w P n s (WR (rs_u2 (rs_u2 I1 66 (6 + 4 * k + 3) (nI so)) 66 1 (nI (k + 1))) (pSo tp (pAm tp p).1).1 0) J1 R) none := by
      intro so hso e2
      rw [e2] at hg
      dsimp only at hg
      refine hg _ _ _ rfl ⟨?_, ?_, ?_, ?_⟩ (fun q j e => by rw [rs_u2_ne _ _ (fun z => e z.1), rs_u2_ne _ _ (fun z => e z.1)]; exact fw1 q j e) f1
      · rw [rs_u2_ne _ _ (by omega), rs_u2_ne _ _ (by omega), i1 0 (by omega)]; exact w0
      · rw [rs_u2_eq, List.length_append, List.length_singleton, hk]
      · rw [rs_u2_ne _ _ (by omega), rs_u2_ne _ _ (by omega), i1 5 (by omega)]; exact w5
      · intro k2 t2 hk2
        by_cases e3 : k2 < acc.length
        · rw [List.getElem?_append_left e3] at hk2
          refine mIt_c (fun j a b => ?_) (w6 k2 t2 hk2)
          rw [rs_u2_ne _ _ (by omega), rs_u2_ne _ _ (by omega), i1 j (by omega)]
        · have h5 := (List.getElem?_eq_some_iff.mp hk2).1
          rw [List.length_append, List.length_singleton] at h5
          have e4 : k2 = k := by omega
          rw [List.getElem?_append_right (by omega), show k2 - acc.length = 0 by omega] at hk2
          cases hk2
          rw [e4]
          refine ⟨?_, ?_, ?_, ?_⟩
          · rw [rs_u2_ne _ _ (by omega), rs_u2_ne _ _ (by omega)]; exact j0
          · rw [rs_u2_ne _ _ (by omega), rs_u2_ne _ _ (by omega)]; exact j1
          · rw [rs_u2_ne _ _ (by omega), rs_u2_ne _ _ (by omega)]; exact j2
          · rw [rs_u2_ne _ _ (by omega), rs_u2_eq]; rfl
    have sg : (nI 48 ≤ sI tp[(pAm tp p).1]? ∧ sI tp[(pAm tp p).1]? ≤ nI 55) ↔ ¬ pB tp 48 55 (pAm tp p).1 = none := by rw [sI_in (h4 _) (by decide) (by decide), pB_in]
    simp (disch := omega) only [g_X12_readItem_17, g_X12_readItem_18, g_X12_readItem_21, g_X12_readItem_23, g_X12_readItem_25, g_X12_readItem_28, g_X12_readItem_29, g_X12_readItem_30, g_X12_readItem_33, g_X12_readItem_34, g_X12_readItem_35, g_X12_readItem_36, g_X12_readItem_37, lk_X12_readItem, XI, Nat.reduceAdd, Nat.reduceEqDiff, not_false_eq_true, nI_T1, nI_T0, true_and, and_true, WC, WV, WU, r_sign P n s I1 J1 R _ _ hT1 h1.1, s_X12_in, sg, rs_b_0, Classical.not_not, nI_addS]
    cases e5 : pB tp 48 55 (pAm tp p).1 with
    | some k5 =>
      obtain ⟨b1, b2, b3, b4⟩ := pB_s e5
      have e6 : pB tp 97 108 (pAm tp p).1 = none := by
        unfold pB
        rw [b3]
        dsimp only
        rw [if_neg (by omega)]
      have e7 : pSo tp (pAm tp p).1 = ((pAm tp p).1 + 1, some (12 + k5)) := by unfold pSo; rw [e6]; dsimp only; rw [e5]
      have fin2 := fin (12 + k5) (by omega) (by rw [e7])
      rw [e7] at fin2
      simp (disch := omega) only [reduceCtorEq, if_false, g_X12_readItem_40, g_X12_readItem_42, g_X12_readItem_43, g_X12_readItem_45, g_X12_readItem_47, g_X12_readItem_50, g_X12_readItem_51, g_X12_readItem_54, g_X12_readItem_55, g_X12_readItem_57, g_X12_readItem_59, g_X12_readItem_62, g_X12_readItem_63, g_X12_readItem_64, g_X12_readItem_67, g_X12_readItem_68, g_X12_readItem_69, g_X12_readItem_70, g_X12_readItem_71, g_X12_readItem_72, g_X12_readItem_73, lk_X12_readItem, XI, Nat.reduceAdd, Nat.reduceEqDiff, not_false_eq_true, nI_T1, nI_T0, true_and, and_true, WC, WV, WU, r_one P n s I1 J1 R _ _ hT1 (show 48 ≤ 55 by decide) (show 55 ≤ 127 by decide) h1.1 (Nat.zero_le 1), e5, if_true, true_and, not_false_eq_true, Option.getD_some, nI_addS, nI_cl, rs_in_t, WR_o, WR_ne, rs_u2_ne, k1]
      exact fin2
    | none =>
      simp (disch := omega) only [if_true, g_X12_readItem_54, g_X12_readItem_55, g_X12_readItem_57, g_X12_readItem_59, lk_X12_readItem, XI, Nat.reduceAdd, Nat.reduceEqDiff, not_false_eq_true, nI_T1, nI_T0, true_and, and_true, WC, WV, WU, r_one P n s I1 J1 R _ _ hT1 (show 97 ≤ 108 by decide) (show 108 ≤ 127 by decide) h1.1 (Nat.zero_le 1), true_and]
      cases e6 : pB tp 97 108 (pAm tp p).1 with
      | some k6 =>
        obtain ⟨b1, b2, b3, b4⟩ := pB_s e6
        have e7 : pSo tp (pAm tp p).1 = ((pAm tp p).1 + 1, some k6) := by unfold pSo; rw [e6]
        have fin2 := fin k6 (by omega) (by rw [e7])
        rw [e7] at fin2
        simp (disch := omega) only [reduceCtorEq, not_false_eq_true, if_true, g_X12_readItem_62, g_X12_readItem_63, g_X12_readItem_64, g_X12_readItem_67, g_X12_readItem_68, g_X12_readItem_69, g_X12_readItem_70, g_X12_readItem_71, g_X12_readItem_72, g_X12_readItem_73, lk_X12_readItem, XI, Nat.reduceAdd, Nat.reduceEqDiff, not_false_eq_true, nI_T1, nI_T0, true_and, and_true, WC, WV, WU, Option.getD_some, nI_addS, nI_cl, rs_in_t, WR_o, WR_ne, rs_u2_ne, k1]
        exact fin2
      | none =>
        have e7 : pSo tp (pAm tp p).1 = ((pAm tp p).1, none) := by unfold pSo; rw [e6]; dsimp only; rw [e5]
        rw [e7] at hw
        simp (disch := omega) only [not_true_eq_false, if_false, g_X12_readItem_62, g_X12_readItem_63, g_X12_readItem_64, g_X12_readItem_67, g_X12_readItem_68, g_X12_readItem_69, g_X12_readItem_70, g_X12_readItem_71, g_X12_readItem_72, g_X12_readItem_73, lk_X12_readItem, XI, Nat.reduceAdd, Nat.reduceEqDiff, not_false_eq_true, nI_T1, nI_T0, true_and, and_true, WC, WV, WU, Option.getD_none, nI_addS, nI_cl, rs_in_t, WR_o, WR_ne, rs_u2_ne, k1]
        exact hw _ _ rfl (fun q j e => by rw [rs_u2_ne _ _ (fun z => e z.1), rs_u2_ne _ _ (fun z => e z.1)]; exact fw1 q j e) f1
  · intro I1 J1 e1 fw1 f1
    have e1 := e1 rfl
    rw [e1] at hw
    rw [if_pos rfl]
    have hT1 := TI_f hT fw1
    have sg : (nI 48 ≤ sI tp[(pAm tp p).1]? ∧ sI tp[(pAm tp p).1]? ≤ nI 55) ↔ ¬ pB tp 48 55 (pAm tp p).1 = none := by rw [sI_in (h4 _) (by decide) (by decide), pB_in]
    simp (disch := omega) only [g_X12_readItem_17, g_X12_readItem_18, g_X12_readItem_21, g_X12_readItem_23, g_X12_readItem_25, g_X12_readItem_28, g_X12_readItem_29, g_X12_readItem_30, g_X12_readItem_33, g_X12_readItem_34, g_X12_readItem_35, g_X12_readItem_36, g_X12_readItem_37, lk_X12_readItem, XI, Nat.reduceAdd, Nat.reduceEqDiff, not_false_eq_true, nI_T1, nI_T0, true_and, and_true, WC, WV, WU, r_sign P n s I1 J1 R _ _ hT1 h1.1, s_X12_in, sg, rs_b_0, Classical.not_not, nI_addS]
    by_cases e5 : pB tp 48 55 (pAm tp p).1 = none
    · rw [if_pos e5]
      simp (disch := omega) only [g_X12_readItem_54, g_X12_readItem_55, g_X12_readItem_57, g_X12_readItem_59, g_X12_readItem_62, g_X12_readItem_63, g_X12_readItem_64, g_X12_readItem_67, g_X12_readItem_68, g_X12_readItem_69, g_X12_readItem_70, g_X12_readItem_71, g_X12_readItem_72, g_X12_readItem_73, lk_X12_readItem, XI, Nat.reduceAdd, Nat.reduceEqDiff, not_false_eq_true, nI_T1, nI_T0, true_and, and_true, WC, WV, WU, r_one P n s I1 J1 R _ _ hT1 (show 97 ≤ 108 by decide) (show 108 ≤ 127 by decide) h1.1 (Nat.le_refl 1), Nat.succ_ne_zero, false_and, if_false, nI_addS, nI_cl, rs_in_t, WR_o, WR_ne, rs_u2_ne]
      exact hw _ _ rfl (fun q j e => by rw [rs_u2_ne _ _ (fun z => e z.1), rs_u2_ne _ _ (fun z => e z.1)]; exact fw1 q j e) f1
    · rw [if_neg e5]
      simp (disch := omega) only [g_X12_readItem_40, g_X12_readItem_42, g_X12_readItem_43, g_X12_readItem_45, g_X12_readItem_47, g_X12_readItem_50, g_X12_readItem_51, g_X12_readItem_54, g_X12_readItem_55, g_X12_readItem_57, g_X12_readItem_59, g_X12_readItem_62, g_X12_readItem_63, g_X12_readItem_64, g_X12_readItem_67, g_X12_readItem_68, g_X12_readItem_69, g_X12_readItem_70, g_X12_readItem_71, g_X12_readItem_72, g_X12_readItem_73, lk_X12_readItem, XI, Nat.reduceAdd, Nat.reduceEqDiff, not_false_eq_true, nI_T1, nI_T0, true_and, and_true, WC, WV, WU, r_one P n s I1 J1 R _ _ hT1 (show 48 ≤ 55 by decide) (show 55 ≤ 127 by decide) h1.1 (Nat.le_refl 1), Nat.succ_ne_zero, false_and, if_false, nI_addS, nI_cl, rs_in_t, WR_o, WR_ne, rs_u2_ne]
      exact hw _ _ rfl (fun q j e => by rw [rs_u2_ne _ _ (fun z => e z.1), rs_u2_ne _ _ (fun z => e z.1)]; exact fw1 q j e) f1
theorem r_items_l (hTl : True) {r : Nat} (z3 : Option Value) : ∀ (m p : Nat) (acc : List It) (I : Nat → Nat → Int32) (J : Nat → Nat → Int64) (x2 : Int32), acc.length + (m + 1) = 6 → TI I tp → I 61 8 = nI 0 → p ≤ tp.length → RW I acc →
    (∀ I' J', (pIts tp (m + 1) p acc).2 = none → fW I I' → fK J J' → rs_X (d + 5) yX12_read 128 [some (.ref 61), some (.int (nI r)), some (.int (nI 0)), z3] [] (sk_w P n s (WR I' (pIts tp (m + 1) p acc).1 1) J' R) Q) →
    (∀ l I' J', (pIts tp (m + 1) p acc).2 = some l → RW I' l → fW I I' → fK J J' → rs_X (d + 5) yX12_read 128 [some (.ref 61), some (.int (nI r)), some (.int (nI 0)), z3] [] (sk_w P n s (WR I' (pIts tp (m + 1) p acc).1 0) J' R) Q) →
    rs_X (d + 5) yX12_read 88 [some (.ref 61), some (.int (nI r)), some (.int x2), z3] [] (sk_w P n s (WR I p 0) J R) Q := by
  intro m
  induction m with
  | zero =>
    intro p acc I J x2 hl hT h8 hp hR hw hg
    have hpi := pIt_le (tp := tp) hp
    rw [pIts_s] at hw hg
    simp (disch := omega) only [g_X12_read_88, g_X12_read_89, lk_X12_read, XI, Nat.reduceAdd, Nat.reduceEqDiff, not_false_eq_true, nI_T1, nI_T0, true_and, and_true, WC, WV, WU]
    refine r_item P n s R d _ I J hT h8 hp (by omega) hR ?_ ?_
    · intro t I1 J1 e1 hR1 f1 f2
      rw [e1] at hg
      dsimp only at hg
      rw [if_pos rfl] at hg
      have w1 := hR1.2.1
      rw [List.length_append, List.length_singleton] at w1
      simp (disch := omega) only [g_X12_read_92, g_X12_read_93, g_X12_read_96, g_X12_read_99, g_X12_read_100, g_X12_read_103, g_X12_read_104, g_X12_read_105, g_X12_read_107, g_X12_read_110, g_X12_read_111, g_X12_read_113, g_X12_read_116, g_X12_read_119, g_X12_read_120, g_X12_read_123, g_X12_read_124, g_X12_read_125, lk_X12_read, XI, Nat.reduceAdd, Nat.reduceEqDiff, not_false_eq_true, nI_T1, nI_T0, true_and, and_true, WC, WV, WU, WR_a13, nI_00, not_true_eq_false, if_false, WR_ne, w1, nI_cl, rs_in_t, nI_leS]
      rw [if_pos (by omega), g_X12_read_84]
      simp (disch := omega) only [g_X12_read_85, lk_X12_read, XI, Nat.reduceAdd, Nat.reduceEqDiff, not_false_eq_true, nI_T1, nI_T0, true_and, and_true, WC, WV, WU, nI_00, if_true]
      exact hg _ _ _ rfl hR1 f1 f2
    · intro I1 J1 e1 f1 f2
      rw [e1] at hw
      simp (disch := omega) only [g_X12_read_92, g_X12_read_93, g_X12_read_96, g_X12_read_99, g_X12_read_100, g_X12_read_103, g_X12_read_104, g_X12_read_105, g_X12_read_107, g_X12_read_110, g_X12_read_111, g_X12_read_113, g_X12_read_116, g_X12_read_119, g_X12_read_120, g_X12_read_123, g_X12_read_124, g_X12_read_125, lk_X12_read, XI, Nat.reduceAdd, Nat.reduceEqDiff, not_false_eq_true, nI_T1, nI_T0, true_and, and_true, WC, WV, WU, WR_a13, nI_10f, not_false_eq_true, if_true]
      rw [g_X12_read_84]
      simp (disch := omega) only [g_X12_read_85, lk_X12_read, XI, Nat.reduceAdd, Nat.reduceEqDiff, not_false_eq_true, nI_T1, nI_T0, true_and, and_true, WC, WV, WU, nI_00, if_true]
      exact hw _ _ rfl f1 f2
  | succ m ih =>
    intro p acc I J x2 hl hT h8 hp hR hw hg
    have hpi := pIt_le (tp := tp) hp
    rw [pIts_s] at hw hg
    simp (disch := omega) only [g_X12_read_88, g_X12_read_89, lk_X12_read, XI, Nat.reduceAdd, Nat.reduceEqDiff, not_false_eq_true, nI_T1, nI_T0, true_and, and_true, WC, WV, WU]
    refine r_item P n s R d _ I J hT h8 hp (by omega) hR ?_ ?_
    · intro t I1 J1 e1 hR1 f1 f2
      rw [e1] at hg hw
      dsimp only at hg hw
      rw [if_neg (by omega)] at hg hw
      have hT1 := TI_f hT f1
      have h81 : I1 61 8 = nI 0 := by rw [f1 61 8 (by decide)]; exact h8
      have w1 := hR1.2.1
      rw [List.length_append, List.length_singleton] at w1
      simp (disch := omega) only [g_X12_read_92, g_X12_read_93, g_X12_read_96, g_X12_read_99, g_X12_read_100, g_X12_read_103, g_X12_read_104, g_X12_read_105, g_X12_read_107, g_X12_read_110, g_X12_read_111, g_X12_read_113, g_X12_read_116, lk_X12_read, XI, Nat.reduceAdd, Nat.reduceEqDiff, not_false_eq_true, nI_T1, nI_T0, true_and, and_true, WC, WV, WU, WR_a13, nI_00, not_true_eq_false, if_false, WR_ne, w1, nI_cl, rs_in_t, nI_leS, r_takes P n s I1 J1 R _ _ hT1 (show 44 ≤ 127 by decide) hpi.1 (Nat.zero_le 1), true_and, rs_b_0]
      rw [if_neg (by omega)]
      by_cases c : tp[(pIt tp p).1]? = some 44
      · rw [if_pos c] at hg hw
        simp (disch := omega) only [c, not_true_eq_false, if_true, if_false, g_X12_read_119, g_X12_read_120, g_X12_read_123, g_X12_read_124, g_X12_read_125, lk_X12_read, XI, Nat.reduceAdd, Nat.reduceEqDiff, not_false_eq_true, nI_T1, nI_T0, true_and, and_true, WC, WV, WU]
        rw [g_X12_read_84]
        simp (disch := omega) only [g_X12_read_85, lk_X12_read, XI, Nat.reduceAdd, Nat.reduceEqDiff, not_false_eq_true, nI_T1, nI_T0, true_and, and_true, WC, WV, WU, nI_10f, if_false]
        refine ih ((pIt tp p).1 + 1) (acc ++ [t]) I1 J1 _ (by rw [List.length_append, List.length_singleton]; omega) hT1 h81 (lt_of_get c) hR1 ?_ ?_
        · intro I' J' e2 g1 g2
          exact hw I' J' e2 (fW_t f1 g1) (fK_t f2 g2)
        · intro l I' J' e2 hR' g1 g2
          exact hg l I' J' e2 hR' (fW_t f1 g1) (fK_t f2 g2)
      · rw [if_neg c] at hg
        simp (disch := omega) only [c, not_false_eq_true, if_true, if_false, g_X12_read_123, g_X12_read_124, g_X12_read_125, lk_X12_read, XI, Nat.reduceAdd, Nat.reduceEqDiff, not_false_eq_true, nI_T1, nI_T0, true_and, and_true, WC, WV, WU]
        rw [g_X12_read_84]
        simp (disch := omega) only [g_X12_read_85, lk_X12_read, XI, Nat.reduceAdd, Nat.reduceEqDiff, not_false_eq_true, nI_T1, nI_T0, true_and, and_true, WC, WV, WU, nI_00, if_true]
        exact hg _ _ _ rfl hR1 f1 f2
    · intro I1 J1 e1 f1 f2
      rw [e1] at hw
      simp (disch := omega) only [g_X12_read_92, g_X12_read_93, g_X12_read_96, g_X12_read_99, g_X12_read_100, g_X12_read_103, g_X12_read_104, g_X12_read_105, g_X12_read_107, g_X12_read_110, g_X12_read_111, g_X12_read_113, g_X12_read_116, g_X12_read_119, g_X12_read_120, g_X12_read_123, g_X12_read_124, g_X12_read_125, lk_X12_read, XI, Nat.reduceAdd, Nat.reduceEqDiff, not_false_eq_true, nI_T1, nI_T0, true_and, and_true, WC, WV, WU, WR_a13, nI_10f, not_false_eq_true, if_true]
      rw [g_X12_read_84]
      simp (disch := omega) only [g_X12_read_85, lk_X12_read, XI, Nat.reduceAdd, Nat.reduceEqDiff, not_false_eq_true, nI_T1, nI_T0, true_and, and_true, WC, WV, WU, nI_00, if_true]
      exact hw _ _ rfl f1 f2
/-- where the text was wrong, nothing more is read -/
theorem r_wrong (I : Nat → Nat → Int32) (J : Nat → Nat → Int64) (hT : TI I tp) {p : Nat} (hp : p ≤ tp.length) (x1 x2 : Int32) (z3 : Option Value) (hQ : Q (sk_w P n s (WR I p 1) J R) (some (.int (-100 - nI p)))) : rs_X (d + 5) yX12_read 146 [some (.ref 61), some (.int x1), some (.int x2), z3] [] (sk_w P n s (WR I p 1) J R) Q := by
  simp (disch := omega) only [g_X12_read_146, g_X12_read_147, g_X12_read_149, g_X12_read_152, lk_X12_read, XI, Nat.reduceAdd, Nat.reduceEqDiff, not_false_eq_true, nI_T1, nI_T0, true_and, and_true, WC, WV, WU, r_takes P n s I J R _ _ hT (show 64 ≤ 127 by decide) hp (Nat.le_refl 1), Nat.succ_ne_zero, false_and, if_false, rs_b_0, not_false_eq_true, if_true]
  simp (disch := omega) only [g_X12_read_165, g_X12_read_166, g_X12_read_169, g_X12_read_172, g_X12_read_173, g_X12_read_176, g_X12_read_177, g_X12_read_180, g_X12_read_183, g_X12_read_185, g_X12_read_186, g_X12_read_189, g_X12_read_190, lk_X12_read, XI, Nat.reduceAdd, Nat.reduceEqDiff, not_false_eq_true, nI_T1, nI_T0, true_and, and_true, WC, WV, WU, WR_a13, nI_10f, not_false_eq_true, if_true, WR_a12]
  exact hQ
theorem r_wrong2 (I : Nat → Nat → Int32) (J : Nat → Nat → Int64) (hT : TI I tp) {p b : Nat} (hp : p ≤ tp.length) (hb : b ≤ 1) (hw : ¬ (b = 0 ∧ tp[p]? = some 61)) (x1 x2 : Int32) (z3 : Option Value) (hQ : Q (sk_w P n s (WR I p 1) J R) (some (.int (-100 - nI p)))) : rs_X (d + 5) yX12_read 128 [some (.ref 61), some (.int x1), some (.int x2), z3] [] (sk_w P n s (WR I p b) J R) Q := by
  simp (disch := omega) only [g_X12_read_128, g_X12_read_129, g_X12_read_131, g_X12_read_134, g_X12_read_135, g_X12_read_138, lk_X12_read, XI, Nat.reduceAdd, Nat.reduceEqDiff, not_false_eq_true, nI_T1, nI_T0, true_and, and_true, WC, WV, WU, r_need P n s I J R _ _ hT (show 61 ≤ 127 by decide) hp hb, hw, if_false, WR_a13, nI_10f, not_false_eq_true, if_true]
  exact r_wrong P n s R d Q I J hT hp x1 x2 z3 hQ
theorem X12_read_z (I : Nat → Nat → Int32) (J : Nat → Nat → Int64) (z2 z3 : Option Value) : ∀ (m k : Nat), k + m = 30 → (∀ x1, rs_X d yX12_read 49 [some (.ref 61), some (.int x1), z2, z3] [] (sk_w P n s (cpU I 66 0 30 fun _ => nI 0) J R) Q) →
    rs_X d yX12_read 30 [some (.ref 61), some (.int (nI k)), z2, z3] [] (sk_w P n s (cpU I 66 0 k fun _ => nI 0) J R) Q := by
  intro m
  induction m with
  | zero =>
    intro k hk h
    have : k = 30 := by omega
    subst this
    rw [g_X12_read_30]
    simp (disch := omega) only [g_X12_read_31, g_X12_read_33, g_X12_read_36, g_X12_read_37, g_X12_read_40, g_X12_read_41, g_X12_read_42, g_X12_read_43, g_X12_read_46, lk_X12_read, XI, Nat.reduceAdd, Nat.reduceEqDiff, not_false_eq_true, nI_T1, nI_T0, true_and, and_true, WC, WV, WU, nI_leS, Nat.le_refl, if_true]
    exact h _
  | succ m ih =>
    intro k hk h
    rw [g_X12_read_30]
    simp (disch := omega) only [g_X12_read_31, g_X12_read_33, g_X12_read_36, g_X12_read_37, g_X12_read_40, g_X12_read_41, g_X12_read_42, g_X12_read_43, g_X12_read_46, lk_X12_read, XI, Nat.reduceAdd, Nat.reduceEqDiff, not_false_eq_true, nI_T1, nI_T0, true_and, and_true, WC, WV, WU, nI_leS, nI_addS, nI_cl, rs_in_t]
    rw [if_neg (by omega), cpU_s I 66 0 k (fun _ => nI 0) (Nat.zero_le k) rfl]
    exact ih (k + 1) (by omega) h
theorem X12_read_k (I : Nat → Nat → Int32) (J : Nat → Nat → Int64) {r : Nat} (hr : r < 8) (x2 : Int32) : ∀ (m k : Nat), k + m = 30 → rs_X d yX12_read 226 [some (.ref 61), some (.int (nI r)), some (.int x2), some (.int (nI 30))] [] (sk_w P n s (cpU I 62 (30 * r) (30 * r + 30) fun j => I 66 (j - 30 * r)) J R) Q →
    rs_X d yX12_read 197 [some (.ref 61), some (.int (nI r)), some (.int x2), some (.int (nI k))] [] (sk_w P n s (cpU I 62 (30 * r) (30 * r + k) fun j => I 66 (j - 30 * r)) J R) Q := by
  intro m
  induction m with
  | zero =>
    intro k hk h
    have : k = 30 := by omega
    subst this
    rw [g_X12_read_197]
    simp (disch := omega) only [g_X12_read_198, g_X12_read_200, g_X12_read_203, g_X12_read_204, g_X12_read_207, g_X12_read_209, g_X12_read_210, g_X12_read_211, g_X12_read_212, g_X12_read_213, g_X12_read_214, g_X12_read_217, g_X12_read_218, g_X12_read_219, g_X12_read_220, g_X12_read_223, lk_X12_read, XI, Nat.reduceAdd, Nat.reduceEqDiff, not_false_eq_true, nI_T1, nI_T0, true_and, and_true, WC, WV, WU, nI_leS, Nat.le_refl, if_true]
    exact h
  | succ m ih =>
    intro k hk h
    rw [g_X12_read_197]
    simp (disch := omega) only [g_X12_read_198, g_X12_read_200, g_X12_read_203, g_X12_read_204, g_X12_read_207, g_X12_read_209, g_X12_read_210, g_X12_read_211, g_X12_read_212, g_X12_read_213, g_X12_read_214, g_X12_read_217, g_X12_read_218, g_X12_read_219, g_X12_read_220, g_X12_read_223, lk_X12_read, XI, Nat.reduceAdd, Nat.reduceEqDiff, not_false_eq_true, nI_T1, nI_T0, true_and, and_true, WC, WV, WU, nI_leS, nI_addS, nI_mulS, nI_cl, rs_in_t, cpU_ne]
    rw [if_neg (by omega), cpU_s I 62 (30 * r) (30 * r + k) (fun j => I 66 (j - 30 * r)) (Nat.le_add_right _ _) (by rw [show 30 * r + k - 30 * r = k by omega])]
    exact ih (k + 1) (by omega) h
end
