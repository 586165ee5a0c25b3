/-! the reference shops for one ingredient: the sum, the choice -/
section
variable (P : Nat → Option rs_C) (n s : Nat) (R : Nat → Nat → Option Nat) (d : Nat) (Q : rs_H → Option Value → Prop)
theorem X12_sh_w (I : Nat → Nat → Int32) {i : Nat} {pk : List (Nat × Nat)} (hp : pkOk pk) {l B a0 b0 c0 : Nat} (hl5 : l ≤ 5000) (hb : Bst pk l B a0 b0 c0) (J0 : Nat → Nat → Int64) (hV : mL J0 (zP pk 0) (lyK pk (pk.length - 1))) (hQ : ∀ J', (∀ q j, ¬ (q = 61 ∧ j = 28) → J' q j = J0 q j) → J' 61 28 = lN B → rs_X d yX12_shop 111 [some (.ref 61), some (.int (nI i)), some (.int (nI (zP pk 0)))] [] (sk_w P n s I J' R) Q) :
    ∀ (m t : Nat) (J : Nat → Nat → Int64), t + m = B → l ≤ t → (∀ q j, ¬ (q = 61 ∧ j = 28) → J q j = J0 q j) → J 61 28 = lN t → rs_X d yX12_shop 59 [some (.ref 61), some (.int (nI i)), some (.int (nI (zP pk 0)))] [] (sk_w P n s I J R) Q := by
  have h1 := hp.1
  obtain ⟨z1, z2⟩ := zP_1 hp (show 0 < pk.length from hp.1)
  obtain ⟨b1, b2, b3, b4, b5⟩ := hb
  have hbd := lyK_bd hp (pk.length - 1) (by omega)
  have h3 := hp.2.1
  have hzn : ¬ lN (zP pk 0) = 0 := fun y => by
    have := (lN_inj (a := zP pk 0) (b := 0) (by omega) (by decide)).mp y
    omega
  intro m
  induction m with
  | zero =>
    intro t J ht hlt hJ h28
    have htB : t = B := by omega
    subst htB
    have hm := Nat.mod_lt t z1
    have er := pk_lRem (a := t) (b := zP pk 0) (by omega) (by omega) (by omega)
    have hv : J 78 (t % zP pk 0) = oL (lyK pk (pk.length - 1) (t % zP pk 0)) := by rw [hJ 78 _ (by omega)]; exact hV _ hm
    obtain ⟨u, u1, u2⟩ := (lyK_iff hp t).mp ⟨a0, b0, c0, b4⟩
    rw [u1] at hv
    have e1 : oL (some u) = lN u := rfl
    rw [e1] at hv
    have nl : ¬ lg_cmp (lN u) (lN 0) < 0 := fun y => by
      have := (pk_lLT (a := u) (b := 0) (by omega) (by decide)).mp ((lg_cmp_lt _ _).mp y)
      omega
    have le : lg_cmp (lN u) (lN t) ≤ 0 := (lg_cmp_le _ _).mpr ((pk_lLE (by omega) (by omega)).mpr u2)
    rw [g_X12_shop_59]
    simp (disch := omega) only [g_X12_shop_60, g_X12_shop_63, g_X12_shop_64, g_X12_shop_67, g_X12_shop_68, g_X12_shop_69, g_X12_shop_70, g_X12_shop_71, g_X12_shop_72, g_X12_shop_73, g_X12_shop_74, g_X12_shop_77, g_X12_shop_78, g_X12_shop_81, g_X12_shop_82, g_X12_shop_85, g_X12_shop_86, g_X12_shop_87, g_X12_shop_88, g_X12_shop_89, g_X12_shop_90, g_X12_shop_91, g_X12_shop_94, g_X12_shop_95, lk_X12_shop, XI, Nat.reduceAdd, Nat.reduceEqDiff, not_false_eq_true, nI_T1, nI_T0, true_and, and_true, WC, WV, WU, h28, nI_long, hzn, not_false_eq_true, true_and, er, lN_i, nI_cl, rs_in_t, hv, nl, if_false, le, if_true]
    exact hQ J hJ h28
  | succ m ih =>
    intro t J ht hlt hJ h28
    have hm := Nat.mod_lt t z1
    have er := pk_lRem (a := t) (b := zP pk 0) (by omega) (by omega) (by omega)
    have hv : J 78 (t % zP pk 0) = oL (lyK pk (pk.length - 1) (t % zP pk 0)) := by rw [hJ 78 _ (by omega)]; exact hV _ hm
    have nr : ¬ ∃ u, lyK pk (pk.length - 1) (t % zP pk 0) = some u ∧ u ≤ t := fun z => by
      obtain ⟨x, y, w, hr⟩ := (lyK_iff hp t).mpr z
      exact b3 t hlt (by omega) x y w hr
    have nx : rs_X d yX12_shop 98 [some (.ref 61), some (.int (nI i)), some (.int (nI (zP pk 0)))] [] (sk_w P n s I J R) Q := by
      simp (disch := omega) only [g_X12_shop_98, g_X12_shop_99, g_X12_shop_100, g_X12_shop_103, g_X12_shop_104, g_X12_shop_105, g_X12_shop_108, lk_X12_shop, XI, Nat.reduceAdd, Nat.reduceEqDiff, not_false_eq_true, nI_T1, nI_T0, true_and, and_true, WC, WV, WU, h28, lN_add]
      exact ih (t + 1) _ (by omega) (by omega) (fun q j a => by rw [rs_u2_ne _ _ a]; exact hJ q j a) (rs_u2_eq _ _ _ _)
    rw [g_X12_shop_59]
    cases hu : lyK pk (pk.length - 1) (t % zP pk 0) with
    | none =>
      rw [hu] at hv
      have e1 : oL none = -1 := rfl
      rw [e1] at hv
      have lt1 : lg_cmp (-1) (lN 0) < 0 := by decide
      simp (disch := omega) only [g_X12_shop_60, g_X12_shop_63, g_X12_shop_64, g_X12_shop_67, g_X12_shop_68, g_X12_shop_69, g_X12_shop_70, g_X12_shop_71, g_X12_shop_72, g_X12_shop_73, g_X12_shop_74, lk_X12_shop, XI, Nat.reduceAdd, Nat.reduceEqDiff, not_false_eq_true, nI_T1, nI_T0, true_and, and_true, WC, WV, WU, h28, nI_long, hzn, not_false_eq_true, true_and, er, lN_i, nI_cl, rs_in_t, hv, lt1, if_true]
      exact nx
    | some u =>
      rw [hu] at hv
      have e1 : oL (some u) = lN u := rfl
      rw [e1] at hv
      have hub := hbd _ u hu
      have nl : ¬ lg_cmp (lN u) (lN 0) < 0 := fun y => by
        have := (pk_lLT (a := u) (b := 0) (by omega) (by decide)).mp ((lg_cmp_lt _ _).mp y)
        omega
      have nle : ¬ lg_cmp (lN u) (lN t) ≤ 0 := fun y => nr ⟨u, hu, (pk_lLE (by omega) (by omega)).mp ((lg_cmp_le _ _).mp y)⟩
      simp (disch := omega) only [g_X12_shop_60, g_X12_shop_63, g_X12_shop_64, g_X12_shop_67, g_X12_shop_68, g_X12_shop_69, g_X12_shop_70, g_X12_shop_71, g_X12_shop_72, g_X12_shop_73, g_X12_shop_74, g_X12_shop_77, g_X12_shop_78, g_X12_shop_81, g_X12_shop_82, g_X12_shop_85, g_X12_shop_86, g_X12_shop_87, g_X12_shop_88, g_X12_shop_89, g_X12_shop_90, g_X12_shop_91, g_X12_shop_94, g_X12_shop_95, lk_X12_shop, XI, Nat.reduceAdd, Nat.reduceEqDiff, not_false_eq_true, nI_T1, nI_T0, true_and, and_true, WC, WV, WU, h28, nI_long, hzn, not_false_eq_true, true_and, er, lN_i, nI_cl, rs_in_t, hv, nl, if_false, nle]
      exact nx
theorem X12_sh_0 (I : Nat → Nat → Int32) {i : Nat} (J0 : Nat → Nat → Int64) (hQ : ∀ J', (∀ q j, ¬ q = 79 → J' q j = J0 q j) → rs_X d yX12_shop 37 [some (.ref 61), some (.int (nI i)), some (.int (nI 3))] [] (sk_w P n s I J' R) Q) :
    ∀ (m k : Nat) (J : Nat → Nat → Int64), k + m = 3 → (∀ q j, ¬ q = 79 → J q j = J0 q j) → rs_X d yX12_shop 19 [some (.ref 61), some (.int (nI i)), some (.int (nI k))] [] (sk_w P n s I J R) Q := by
  intro m
  induction m with
  | zero =>
    intro k J hk hJ
    have : k = 3 := by omega
    subst this
    rw [g_X12_shop_19]
    simp (disch := omega) only [g_X12_shop_20, g_X12_shop_21, g_X12_shop_24, g_X12_shop_25, g_X12_shop_28, g_X12_shop_29, g_X12_shop_30, g_X12_shop_31, g_X12_shop_34, lk_X12_shop, XI, Nat.reduceAdd, Nat.reduceEqDiff, not_false_eq_true, nI_T1, nI_T0, true_and, and_true, WC, WV, WU, nI_leS, Nat.le_refl, if_true]
    exact hQ J hJ
  | succ m ih =>
    intro k J hk hJ
    rw [g_X12_shop_19]
    simp (disch := omega) only [g_X12_shop_20, g_X12_shop_21, g_X12_shop_24, g_X12_shop_25, g_X12_shop_28, g_X12_shop_29, g_X12_shop_30, g_X12_shop_31, g_X12_shop_34, lk_X12_shop, XI, Nat.reduceAdd, Nat.reduceEqDiff, not_false_eq_true, nI_T1, nI_T0, true_and, and_true, WC, WV, WU, nI_leS, nI_cl, rs_in_t, nI_addS]
    rw [if_neg (by omega)]
    exact ih (k + 1) _ (by omega) (fun q j a => by rw [rs_u2_ne _ _ (fun y => a y.1)]; exact hJ q j a)
theorem s_shop (I : Nat → Nat → Int32) (J : Nat → Nat → Int64) {i : Nat} (hi : i < 12) {pk : List (Nat × Nat)} (hp : pkOk pk) (hI : mPk I i pk) {q : Nat × Nat} (hq : isF q) {k : Nat} (hk : k ≤ 999999) (h1 : J 67 i = lN q.1) (h2 : J 68 i = lN q.2) (h3 : I 62 (240 + 14 * i + 6) = nI k) {l B a0 b0 c0 : Nat} (hl : up1 q - k = l) (hl1 : 1 ≤ l) (hl5 : l ≤ 5000) (hb : Bst pk l B a0 b0 c0) (hR : rInv (I 61 32) (I 61 33) (I 61 34))
    (hQ : ∀ I' J', fX I I' → fS J J' → rInv (I' 61 32) (I' 61 33) (I' 61 34) → mC J' 79 a0 b0 c0 → J' 61 28 = lN B → J' 61 29 = lN l → Q (sk_w P n s I' J' R) none) : rs_XM (d + 5) yX12_shop [.ref 61, .int (nI i)] (sk_w P n s I J R) Q := by
  have e0 := (hI.2 0 hp.1).1
  rw [em_X12_shop]
  simp (disch := omega) only [g_X12_shop_0, g_X12_shop_1, g_X12_shop_2, g_X12_shop_3, g_X12_shop_6, g_X12_shop_9, g_X12_shop_10, g_X12_shop_11, g_X12_shop_14, g_X12_shop_17, g_X12_shop_18, lk_X12_shop, XI, Nat.reduceAdd, Nat.reduceEqDiff, not_false_eq_true, nI_T1, nI_T0, true_and, and_true, WC, WV, WU, s_lackOf P n s R _ _ I J hi hq hk h1 h2 h3, hl, rs_u2_eq]
  refine X12_sh_0 P n s R (d + 5) Q I _ (fun J1 hj1 => ?_) 3 0 _ rfl (fun _ _ _ => rfl)
  have j29 : J1 61 29 = lN l := by rw [hj1 61 29 (by decide), rs_u2_ne _ _ (by omega), rs_u2_eq]
  have j28 : J1 61 28 = lN l := by rw [hj1 61 28 (by decide), rs_u2_eq]
  have hne : ¬ lg_cmp (lN l) (lN 0) = 0 := fun y => by
    have := (lN_inj (a := l) (b := 0) (by omega) (by decide)).mp ((lg_cmp_eq _ _).mp y)
    omega
  simp (disch := omega) only [g_X12_shop_37, g_X12_shop_38, g_X12_shop_41, g_X12_shop_42, g_X12_shop_43, g_X12_shop_46, g_X12_shop_47, g_X12_shop_48, g_X12_shop_49, lk_X12_shop, XI, Nat.reduceAdd, Nat.reduceEqDiff, not_false_eq_true, nI_T1, nI_T0, true_and, and_true, WC, WV, WU, j29, hne, not_false_eq_true, if_true]
  refine s_layLeast P n s I R (d + 2) _ hi hp hI J1 (fun J2 hj2 hV => ?_)
  simp (disch := omega) only [g_X12_shop_52, g_X12_shop_53, g_X12_shop_54, g_X12_shop_55, g_X12_shop_58, lk_X12_shop, XI, Nat.reduceAdd, Nat.reduceEqDiff, not_false_eq_true, nI_T1, nI_T0, true_and, and_true, WC, WV, WU, s_X12_sizeOf, e0]
  have hb2 := hb.2.1
  refine X12_sh_w P n s R (d + 5) Q I hp hl5 hb J2 hV (fun J3 hj3 h28 => ?_) (B - l) l J2 (by have := hb.1; omega) (Nat.le_refl l) (fun _ _ _ => rfl) (by rw [hj2 61 28 (by decide)]; exact j28)
  simp (disch := omega) only [g_X12_shop_111, g_X12_shop_112, g_X12_shop_113, lk_X12_shop, XI, Nat.reduceAdd, Nat.reduceEqDiff, not_false_eq_true, nI_T1, nI_T0, true_and, and_true, WC, WV, WU]
  refine s_X12_choose P n s R d _ I J3 hi hp hI (by omega) hb h28 hR (fun I' J' f1 f2 r1 hC => ?_)
  simp (disch := omega) only [g_X12_shop_116, lk_X12_shop, XI, Nat.reduceAdd, Nat.reduceEqDiff, not_false_eq_true, nI_T1, nI_T0, true_and, and_true, WC, WV, WU]
  refine hQ I' J' f1 (fun q j a b c e => ?_) r1 hC (by rw [f2 61 28 (by decide) (by decide)]; exact h28) (by rw [f2 61 29 (by decide) (by decide), hj3 61 29 (by omega), hj2 61 29 (by decide)]; exact j29)
  rw [f2 q j c e, hj3 q j (by omega), hj2 q j b, hj1 q j c, rs_u2_ne _ _ (by omega), rs_u2_ne _ _ (by omega)]
end
