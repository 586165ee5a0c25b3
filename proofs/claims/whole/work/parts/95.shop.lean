/-! the reference shops for one ingredient -/
def fS (J J' : Nat → Nat → Int64) : Prop := ∀ q j, ¬ (q = 61 ∧ (j = 28 ∨ j = 29)) → ¬ q = 78 → ¬ q = 79 → ¬ q = 80 → J' q j = J q j
theorem lack_e {q : Nat × Nat} (hq : isF q) (s : Nat) : (if q.1 ≤ s * q.2 then 0 else (q.1 - s * q.2 + q.2 - 1) / q.2) = up1 q - s := by
  have h2 := hq.2.1
  unfold up1
  by_cases e : q.1 ≤ s * q.2
  · rw [if_pos e]
    have : (q.1 + q.2 - 1) / q.2 < s + 1 := (Nat.div_lt_iff_lt_mul h2).mpr (by rw [Nat.succ_mul]; omega)
    omega
  · rw [if_neg e]
    have e1 : q.1 + q.2 - 1 = (q.1 - s * q.2 + q.2 - 1) + s * q.2 := by omega
    rw [e1, Nat.add_mul_div_right _ _ h2]
    exact (Nat.add_sub_cancel _ _).symm
section
variable (P : Nat → Option rs_C) (n s : Nat) (R : Nat → Nat → Option Nat) (d : Nat) (Q : rs_H → Option Value → Prop)
theorem s_lackOf (I : Nat → Nat → Int32) (J : Nat → Nat → Int64) {i : Nat} (hi : i < 12) {q : Nat × Nat} (hq : isF q) {k : Nat} (hk : k ≤ 999999) (h1 : J 67 i = lN q.1) (h2 : J 68 i = lN q.2) (h3 : I 62 (240 + 14 * i + 6) = nI k) : rs_XM (d + 1) yX12_lackOf [.ref 61, .int (nI i)] (sk_w P n s I J R) Q ↔ Q (sk_w P n s I J R) (some (.long (lN (up1 q - k)))) := by
  have hkq : k * q.2 ≤ 999999 * 1000000000 := Nat.mul_le_mul hk hq.2.2.1
  have hq1 := hq.1
  have hq2 := hq.2.1
  have hq3 := hq.2.2.1
  have hqn : ¬ lN q.2 = 0 := fun y => by
    have := (lN_inj (a := q.2) (b := 0) (by omega) (by decide)).mp y
    omega
  have e := lack_e hq k
  rw [em_X12_lackOf]
  simp (disch := omega) only [g_X12_lackOf_0, g_X12_lackOf_1, g_X12_lackOf_4, g_X12_lackOf_5, g_X12_lackOf_8, g_X12_lackOf_10, g_X12_lackOf_11, g_X12_lackOf_12, g_X12_lackOf_13, g_X12_lackOf_14, g_X12_lackOf_15, g_X12_lackOf_18, g_X12_lackOf_19, g_X12_lackOf_20, g_X12_lackOf_21, g_X12_lackOf_22, g_X12_lackOf_25, g_X12_lackOf_26, g_X12_lackOf_27, g_X12_lackOf_28, g_X12_lackOf_29, g_X12_lackOf_31, g_X12_lackOf_33, g_X12_lackOf_34, g_X12_lackOf_35, lk_X12_lackOf, XI, Nat.reduceAdd, Nat.reduceEqDiff, not_false_eq_true, nI_T1, nI_T0, true_and, and_true, WC, WV, WU, s_X12_at, nI_addS, nI_cl, rs_in_t, h1, h2, h3, nI_long, lN_mul]
  by_cases c : q.1 ≤ k * q.2
  · rw [if_pos c] at e
    rw [← e]
    have c2 : ¬ 0 < lg_cmp (lN q.1 - lN (k * q.2)) (lN 0) := fun y => by
      by_cases z : q.1 = k * q.2
      · rw [(lS_eq (by omega) (by omega)).mpr z] at y
        exact absurd y (by decide)
      · exact Int32.lt_irrefl (Int32.lt_trans y ((lS_lt (by omega) (by omega)).mpr (by omega)))
    simp (disch := omega) only [c2, if_false, g_X12_lackOf_38, g_X12_lackOf_39, lk_X12_lackOf, g_X12_lackOf_60, lk_X12_lackOf, XI, Nat.reduceAdd, Nat.reduceEqDiff, not_false_eq_true, nI_T1, nI_T0, true_and, and_true, WC, WV, WU]
  · rw [if_neg c] at e
    have hsub := lN_sub (a := q.1) (b := k * q.2) (by omega)
    have c2 : 0 < lg_cmp (lN (q.1 - k * q.2)) (lN 0) := by
      exact (lg_cmp_gt _ _).mpr ((pk_lLT (a := 0) (b := q.1 - k * q.2) (by decide) (by omega)).mpr (by omega))
    have e4 : (lN (q.1 - k * q.2) + lN q.2 - lN 1) / lN q.2 = lN (up1 q - k) := by
      rw [lN_add, lN_sub (by omega), pk_lDiv (by omega) (by omega) (by omega), e]
    simp (disch := omega) only [c2, if_true, g_X12_lackOf_42, g_X12_lackOf_44, g_X12_lackOf_45, g_X12_lackOf_48, g_X12_lackOf_49, g_X12_lackOf_50, g_X12_lackOf_51, g_X12_lackOf_52, g_X12_lackOf_53, g_X12_lackOf_54, g_X12_lackOf_57, g_X12_lackOf_58, g_X12_lackOf_59, g_X12_lackOf_60, lk_X12_lackOf, XI, Nat.reduceAdd, Nat.reduceEqDiff, not_false_eq_true, nI_T1, nI_T0, true_and, and_true, WC, WV, WU, hsub, nI_cl, rs_in_t, h2, hqn, not_false_eq_true, true_and, e4]
theorem s_X12_choose (I : Nat → Nat → Int32) (J : Nat → Nat → Int64) {i : Nat} (hi : i < 12) {pk : List (Nat × Nat)} (hp : pkOk pk) (hI : mPk I i pk) {l B a0 b0 c0 : Nat} (hB : B ≤ 8191) (hb : Bst pk l B a0 b0 c0) (hJB : J 61 28 = lN B) (hR : rInv (I 61 32) (I 61 33) (I 61 34))
    (hQ : ∀ I' J', fX I I' → fT J J' → rInv (I' 61 32) (I' 61 33) (I' 61 34) → mC J' 79 a0 b0 c0 → Q (sk_w P n s I' J' R) none) : rs_XM (d + 4) yX12_choose [.ref 61, .int (nI i)] (sk_w P n s I J R) Q := by
  have h1 := hp.1
  have h3 := hp.2.1
  have hble := bp_le pk (pk.length - 1)
  have hbest := fun k (hk : k < pk.length) => bp_ok hp (pk.length - 1) (by omega) k (by omega)
  obtain ⟨o, t, hc⟩ := Cs_ex hp (show bp pk (pk.length - 1) < pk.length by omega)
  obtain ⟨b1, b2, b3⟩ := Cs_b hc
  have eb := (hI.2 _ b1).1
  have go := X12_ch_l P n s R d Q hi hp hc hB I J hI hJB (fun I' J' f1 f2 r1 ⟨fl, hk⟩ => hQ I' J' f1 f2 r1 (kpt_e hp hc hbest hB hb hk)) (eO2 pk (bp pk (pk.length - 1)) o) 0 1 I J none none none none none (Nat.zero_add _) (fX_r I) (fT_r J) hR (Or.inl ⟨rfl, fun x' f v h => absurd h (Nat.not_lt_zero x')⟩)
  rw [em_X12_choose]
  simp (disch := omega) only [g_X12_choose_0, g_X12_choose_1, g_X12_choose_2, g_X12_choose_5, g_X12_choose_6, g_X12_choose_7, g_X12_choose_8, g_X12_choose_11, g_X12_choose_12, lk_X12_choose, XI, Nat.reduceAdd, Nat.reduceEqDiff, not_false_eq_true, nI_T1, nI_T0, true_and, and_true, WC, WV, WU, s_bestPack P n s J R _ _ I hi hp hI, s_X12_packs, hI.1, nI_leS]
  generalize bp pk (pk.length - 1) = b at *
  rcases hc with ⟨e1, e2, e3, e4⟩ | ⟨e1, e2, e3, e4⟩ | ⟨e1, e2, e3, e4⟩ | ⟨e1, e2, e3, e4⟩ | ⟨e1, e2, e3, e4⟩ | ⟨e1, e2, e3, e4⟩
  all_goals
    subst e2 e3 e4
    simp (disch := omega) only [iO_n, iO_s] at go
    simp (disch := omega) only [e1, Nat.reduceLeDiff, if_true, if_false, g_X12_choose_15, g_X12_choose_16, g_X12_choose_19, g_X12_choose_20, g_X12_choose_23, g_X12_choose_24, g_X12_choose_27, g_X12_choose_28, g_X12_choose_29, g_X12_choose_30, g_X12_choose_31, g_X12_choose_34, g_X12_choose_35, g_X12_choose_38, g_X12_choose_39, g_X12_choose_42, g_X12_choose_43, g_X12_choose_44, g_X12_choose_45, g_X12_choose_46, g_X12_choose_47, g_X12_choose_49, g_X12_choose_50, g_X12_choose_51, g_X12_choose_52, g_X12_choose_55, g_X12_choose_57, g_X12_choose_58, g_X12_choose_60, g_X12_choose_61, g_X12_choose_64, g_X12_choose_65, g_X12_choose_68, g_X12_choose_70, g_X12_choose_72, g_X12_choose_73, lk_X12_choose, XI, Nat.reduceAdd, Nat.reduceEqDiff, not_false_eq_true, nI_T1, nI_T0, true_and, and_true, WC, WV, WU, nI_00, nI_10f, not_true_eq_false, not_false_eq_true, s_X12_packs, hI.1, nI_leS, nI_subS, Nat.reduceSub, s_X12_sizeOf, eb, m1_ge, nI_ge0S]
    exact go
end
