/-! buying: the reference's loops -/
def buR (D : Dt) (w : Nat → Nat × Nat × Nat × Nat) : Nat → Dt
  | 0 => D
  | k + 1 => (buR D w k).setI k ((D.ig k).setSt (stA D w k))
theorem buR_s (D : Dt) (w : Nat → Nat × Nat × Nat × Nat) (k : Nat) : buR D w (k + 1) = (buR D w k).setI k ((D.ig k).setSt (stA D w k)) := rfl
theorem buR_P (D : Dt) (w : Nat → Nat × Nat × Nat × Nat) : ∀ k, buI D w k = (buR D w k).setP none
  | 0 => rfl
  | k + 1 => by rw [buI_s, buR_s, buR_P D w k]; rfl
theorem buR_g (D : Dt) (w : Nat → Nat × Nat × Nat × Nat) : ∀ k j, k ≤ j → (buR D w k).ig j = D.ig j
  | 0, j, _ => rfl
  | k + 1, j, h => by
    rw [buR_s]
    have e : ((buR D w k).setI k ((D.ig k).setSt (stA D w k))).ig j = (buR D w k).ig j := if_neg (by omega)
    rw [e]
    exact buR_g D w k j (by omega)
theorem buR_ok {D : Dt} (hD : D.ok) {w : Nat → Nat × Nat × Nat × Nat} : ∀ k, k ≤ 12 → (∀ i, i < k → stA D w i ≤ 999999) → (buR D w k).ok
  | 0, _, _ => hD
  | k + 1, h, hs => by
    rw [buR_s]
    exact Dt.setI_ok (buR_ok hD k (by omega) (fun i hi => hs i (by omega))) (Ig.setSt_ok (hD.2.1 k (by omega)) (hs k (by omega)))
section
variable (P : Nat → Option rs_C) (n s : Nat) (J : Nat → Nat → Int64) (R : Nat → Nat → Option Nat) (d : Nat) (Q : rs_H → Option Value → Prop)
theorem X12_bu_1 (I : Nat → Nat → Int32) {D : Dt} (hD : D.ok) {w : Nat → Nat × Nat × Nat × Nat} (hw : chs D w) (hM : mDt (I 62) D) (h81 : ∀ i, i < 12 → J 81 i = lN (aG D w i)) (hm : mS J 67 68 12 (aftD D)) (q4 : (∃ i, i < 12 ∧ 999999 < stA D w i) → Q (sk_w P n s I J R) (some (.int (-4)))) (qE : (∀ i, i < 12 → stA D w i ≤ 999999) → rs_X (d + 2) yX12_buy 60 [some (.ref 61), some (.int (nI 12))] [] (sk_w P n s I J R) Q) : ∀ (m k : Nat), k + m = 12 → (∀ i, i < k → stA D w i ≤ 999999) → rs_X (d + 2) yX12_buy 33 [some (.ref 61), some (.int (nI k))] [] (sk_w P n s I J R) Q := by
  intro m
  induction m with
  | zero =>
    intro k hk hs
    have : k = 12 := by omega
    subst this
    rw [g_X12_buy_33]
    simp (disch := omega) only [g_X12_buy_34, g_X12_buy_36, lk_X12_buy, XI, Nat.reduceAdd, Nat.reduceEqDiff, not_false_eq_true, nI_T1, nI_T0, true_and, and_true, WC, WV, WU, nI_leS, Nat.le_refl, if_true]
    exact qE hs
  | succ m ih =>
    intro k hk hs
    have hk12 : k < 12 := by omega
    obtain ⟨g1, g2, g3, g4, g5, g6, g7⟩ := hM.2.1 k hk12
    obtain ⟨b1, b2⟩ := stA_b hD hw hk12
    have hst : stA D w k < 1010000 := by unfold stA; omega
    have hle : (lg_cmp (lN (stA D w k)) (lN 999999) ≤ 0) ↔ stA D w k ≤ 999999 := by rw [lg_cmp_le, pk_lLE (by omega) (by decide)]
    rw [g_X12_buy_33]
    simp (disch := omega) only [g_X12_buy_34, g_X12_buy_36, g_X12_buy_39, g_X12_buy_40, g_X12_buy_41, g_X12_buy_44, g_X12_buy_47, g_X12_buy_48, lk_X12_buy, XI, Nat.reduceAdd, Nat.reduceEqDiff, not_false_eq_true, nI_T1, nI_T0, true_and, and_true, WC, WV, WU, nI_leS, s_stockAfter P n s I J R _ _ hD hw hk12 g5 (h81 k hk12) (hm k hk12).1 (hm k hk12).2, hle]
    rw [if_neg (by omega)]
    by_cases hf : stA D w k ≤ 999999
    · rw [if_pos hf]
      simp (disch := omega) only [g_X12_buy_54, g_X12_buy_57, lk_X12_buy, XI, Nat.reduceAdd, Nat.reduceEqDiff, not_false_eq_true, nI_T1, nI_T0, true_and, and_true, WC, WV, WU, nI_addS]
      refine ih (k + 1) (by omega) (fun i hi => ?_)
      by_cases e : i = k
      · rw [e]; exact hf
      · exact hs i (by omega)
    · rw [if_neg hf]
      simp (disch := omega) only [g_X12_buy_51, g_X12_buy_53, lk_X12_buy, XI, Nat.reduceAdd, Nat.reduceEqDiff, not_false_eq_true, nI_T1, nI_T0, true_and, and_true, WC, WV, WU]
      exact q4 ⟨k, hk12, by omega⟩
theorem X12_bu_2 (I0 : Nat → Nat → Int32) {D : Dt} (hD : D.ok) {w : Nat → Nat × Nat × Nat × Nat} (hw : chs D w) (hst : ∀ i, i < 12 → stA D w i ≤ 999999) (h81 : ∀ i, i < 12 → J 81 i = lN (aG D w i)) (hm : mS J 67 68 12 (aftD D)) (hQ : ∀ I', (∀ q j, ¬ q = 62 → I' q j = I0 q j) → mDt (I' 62) (buR D w 12) → rs_X (d + 2) yX12_buy 96 [some (.ref 61), some (.int (nI 12))] [] (sk_w P n s I' J R) Q) : ∀ (m k : Nat) (I : Nat → Nat → Int32), k + m = 12 → (∀ q j, ¬ q = 62 → I q j = I0 q j) → mDt (I 62) (buR D w k) → rs_X (d + 2) yX12_buy 66 [some (.ref 61), some (.int (nI k))] [] (sk_w P n s I J R) Q := by
  intro m
  induction m with
  | zero =>
    intro k I hk hI hM
    have : k = 12 := by omega
    subst this
    rw [g_X12_buy_66]
    simp (disch := omega) only [g_X12_buy_67, g_X12_buy_69, lk_X12_buy, XI, Nat.reduceAdd, Nat.reduceEqDiff, not_false_eq_true, nI_T1, nI_T0, true_and, and_true, WC, WV, WU, nI_leS, Nat.le_refl, if_true]
    exact hQ I hI hM
  | succ m ih =>
    intro k I hk hI hM
    have hk12 : k < 12 := by omega
    have hmi := hM.2.1 k hk12
    rw [buR_g D w k k (Nat.le_refl k)] at hmi
    obtain ⟨m1, m2, m3, m4, m5, m6, m7⟩ := hmi
    have hl := (hD.2.1 k hk12).2.2.2.2.2.1
    have e : ∀ j, ¬ j = 240 + 14 * k + 6 → rs_u2 I 62 (240 + 14 * k + 6) (nI (stA D w k)) 62 j = I 62 j := fun j h1 => rs_u2_ne _ _ (by omega)
    rw [g_X12_buy_66]
    simp (disch := omega) only [g_X12_buy_67, g_X12_buy_69, g_X12_buy_72, g_X12_buy_73, g_X12_buy_76, g_X12_buy_77, g_X12_buy_80, g_X12_buy_82, g_X12_buy_83, g_X12_buy_84, g_X12_buy_85, g_X12_buy_88, g_X12_buy_89, g_X12_buy_90, g_X12_buy_93, lk_X12_buy, XI, Nat.reduceAdd, Nat.reduceEqDiff, not_false_eq_true, nI_T1, nI_T0, true_and, and_true, WC, WV, WU, nI_leS, s_X12_at, nI_addS, nI_cl, rs_in_t, s_stockAfter P n s I J R _ _ hD hw hk12 m5 (h81 k hk12) (hm k hk12).1 (hm k hk12).2, lN_i]
    rw [if_neg (by omega)]
    refine ih (k + 1) _ (by omega) (fun q j a => by rw [rs_u2_ne _ _ (fun z => a z.1)]; exact hI q j a) ?_
    rw [buR_s]
    refine mDt_I (buR_ok hD k (by omega) (fun i hi => hst i (by omega))) hk12 (fun j hj => e j (by omega)) ⟨?_, ?_, ?_, ?_, ?_, ?_, ?_⟩ hM
    · exact mFr_c (fun j h1 h2 => e j (by omega)) m1
    · exact mFr_c (fun j h1 h2 => e j (by omega)) m2
    · rw [e _ (by omega)]; exact m3
    · rw [e _ (by omega)]; exact m4
    · rw [rs_u2_eq]; rfl
    · rw [e _ (by omega)]; exact m6
    · intro k2 p hk2
      have hk3 : k2 < (D.ig k).pk.length := (List.getElem?_eq_some_iff.mp hk2).1
      rw [e _ (by omega), e _ (by omega)]
      exact m7 k2 p hk2
end
