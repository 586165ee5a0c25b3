/-! the reference's whole shopping -/
section
variable (P : Nat → Option rs_C) (n s : Nat) (R : Nat → Nat → Option Nat) (d : Nat) (Q : rs_H → Option Value → Prop)
theorem X12_sa_l {D : Dt} (hD : D.ok) {w : Nat → Nat × Nat × Nat × Nat} (hw : chs D w) (I0 : Nat → Nat → Int32) (J0 : Nat → Nat → Int64) (hM : mDt (I0 62) D) (hm : mS J0 67 68 12 (aftD D)) (hQ : ∀ I' J', fY I0 I' → fZ J0 J' → rInv (I' 61 32) (I' 61 33) (I' 61 34) → rA D w I' J' 12 → Q (sk_w P n s I' J' R) none) :
    ∀ (m k : Nat) (I : Nat → Nat → Int32) (J : Nat → Nat → Int64), k + m = 12 → fY I0 I → fZ J0 J → rInv (I 61 32) (I 61 33) (I 61 34) → rA D w I J k → rs_X (d + 6) yX12_shopAll 27 [some (.ref 61), some (.int (nI k))] [] (sk_w P n s I J R) Q := by
  intro m
  induction m with
  | zero =>
    intro k I J hk fi fj hR hA
    have : k = 12 := by omega
    subst this
    rw [g_X12_shopAll_27]
    simp (disch := omega) only [g_X12_shopAll_28, g_X12_shopAll_30, lk_X12_shopAll, g_X12_shopAll_168, lk_X12_shopAll, XI, Nat.reduceAdd, Nat.reduceEqDiff, not_false_eq_true, nI_T1, nI_T0, true_and, and_true, WC, WV, WU, nI_leS, Nat.le_refl, if_true]
    exact hQ I J fi fj hR hA
  | succ m ih =>
    intro k I J hk fi fj hR hA
    have hk12 : k < 12 := by omega
    obtain ⟨a35, a36, a37, a38, a39, a81⟩ := hA
    have hg := hD.2.1 k hk12
    have hF := aftD_ok hD k hk12
    have hl9 := lkD_le hD hk12
    have l1 := bK_le (lkB D) k (by omega)
    have l2 := bK_le (unB D) k (by omega)
    have ep := pow_lt12 hk12
    have s1 := sK_le (fun i hi => aP_le hD hw hi) k (by omega)
    have s2 := sK_le (f := aW D w) (m := 7000) (fun i hi => by have := (aG_le hw hi).2; omega) k (by omega)
    have s3 := sK_le (f := aG D w) (m := 7000) (fun i hi => by have := (aG_le hw hi).1; omega) k (by omega)
    have e62 : I 62 = I0 62 := funext fun j => fi 62 j (by omega)
    have hM1 : mDt (I 62) D := by rw [e62]; exact hM
    have hP := mPk_of hM1 hk12
    obtain ⟨g1, g2, g3, g4, g5, g6, g7⟩ := hM1.2.1 k hk12
    have m1 : J 67 k = lN (aftD D k).1 := by rw [fj 67 k (by omega) (by decide) (by decide) (by decide) (by decide)]; exact (hm k hk12).1
    have m2 : J 68 k = lN (aftD D k).2 := by rw [fj 68 k (by omega) (by decide) (by decide) (by decide) (by decide)]; exact (hm k hk12).2
    have elk : up1 (aftD D k) - (D.ig k).stk = lkD D k := rfl
    have ih2 := fun I' J' => ih (k + 1) I' J' (by omega)
    unfold rA at ih2
    simp only [sK_s, bK_s] at ih2
    have lo : ∀ I' J', (∀ j, J' 67 j = J 67 j) → (∀ j, J' 68 j = J 68 j) → I' 62 = I 62 → ∀ (d : Nat) (Q : rs_H → Option Value → Prop), rs_XM (d + 1) yX12_lackOf [.ref 61, .int (nI k)] (sk_w P n s I' J' R) Q ↔ Q (sk_w P n s I' J' R) (some (.long (lN (lkD D k)))) := fun I' J' h1 h2 h3 d Q => s_lackOf P n s R d Q I' J' hk12 hF hg.2.2.2.2.1 (by rw [h1]; exact m1) (by rw [h2]; exact m2) (by rw [h3]; exact g5)
    have j0a : ∀ j, rs_u2 J 81 k (lN 0) 67 j = J 67 j := fun j => rs_u2_ne _ _ (by omega)
    have j0b : ∀ j, rs_u2 J 81 k (lN 0) 68 j = J 68 j := fun j => rs_u2_ne _ _ (by omega)
    have hgt : (0 < lg_cmp (lN (lkD D k)) (lN 0)) ↔ 0 < lkD D k := by rw [lg_cmp_gt, pk_lLT (by decide) (by omega)]
    have hle : (lg_cmp (lN (lkD D k)) (lN 0) ≤ 0) ↔ lkD D k = 0 := by rw [lg_cmp_le, pk_lLE (by omega) (by decide)]; omega
    rw [g_X12_shopAll_27]
    simp (disch := omega) only [g_X12_shopAll_28, g_X12_shopAll_30, g_X12_shopAll_33, g_X12_shopAll_34, g_X12_shopAll_37, g_X12_shopAll_38, g_X12_shopAll_39, g_X12_shopAll_40, g_X12_shopAll_41, g_X12_shopAll_42, g_X12_shopAll_45, g_X12_shopAll_46, g_X12_shopAll_47, lk_X12_shopAll, XI, Nat.reduceAdd, Nat.reduceEqDiff, not_false_eq_true, nI_T1, nI_T0, true_and, and_true, WC, WV, WU, nI_leS, nI_cl, rs_in_t, lo I _ j0a j0b rfl, hgt, hle]
    rw [if_neg (by omega)]
    by_cases h0 : lkD D k = 0
    · have nc : ¬ cov D k := fun z => z.1 h0
      have e1 : aP D w k = 0 := fA_f nc
      have e2 : aW D w k = 0 := fA_f nc
      have e3 : aG D w k = 0 := fA_f nc
      have e4 : ¬ lkB D k = true := fun z => (lkB_i D k).mp z h0
      have e5 : ¬ unB D k = true := fun z => ((unB_i D k).mp z).1 h0
      rw [if_neg e4, if_neg e5, e1, e2] at ih2
      rw [if_pos h0]
      simp (disch := omega) only [g_X12_shopAll_162, g_X12_shopAll_165, lk_X12_shopAll, XI, Nat.reduceAdd, Nat.reduceEqDiff, not_false_eq_true, nI_T1, nI_T0, true_and, and_true, WC, WV, WU, nI_addS]
      refine ih2 I _ fi (fZ_t fj (fun q j a b c e f => rs_u2_ne _ _ (fun z => f z.1))) hR ⟨?_, ?_, ?_, a38, a39, fun j hj => ?_⟩
      · rw [rs_u2_ne _ _ (by omega)]; exact a35
      · rw [rs_u2_ne _ _ (by omega)]; exact a36
      · rw [rs_u2_ne _ _ (by omega), e3]; exact a37
      · by_cases e : j = k
        · rw [e, rs_u2_eq, e3]
        · rw [rs_u2_ne _ _ (fun z => e z.2)]
          exact a81 j (by omega)
    · have e4 : lkB D k = true := (lkB_i D k).mpr h0
      rw [if_pos e4] at ih2
      rw [if_neg h0]
      have hP2 : mPk (rs_u2 I 61 38 (nI (bK (lkB D) k ||| 2 ^ k))) k (D.ig k).pk := by
        unfold mPk
        rw [show rs_u2 I 61 38 (nI (bK (lkB D) k ||| 2 ^ k)) 62 = I 62 from funext fun j => rs_u2_ne _ _ (by omega)]
        exact hP
      have i62 : rs_u2 I 61 38 (nI (bK (lkB D) k ||| 2 ^ k)) 62 = I 62 := funext fun j => rs_u2_ne _ _ (by omega)
      have h3 := hg.2.2.2.2.2.1
      have le5 : (lg_cmp (lN (lkD D k)) (lN 5000) ≤ 0) ↔ lkD D k ≤ 5000 := by rw [lg_cmp_le, pk_lLE (by omega) (by decide)]
      have i39 : rs_u2 I 61 38 (nI (bK (lkB D) k ||| 2 ^ k)) 61 39 = nI (bK (unB D) k) := by rw [rs_u2_ne _ _ (by omega)]; exact a39
      have i38 : rs_u2 I 61 38 (nI (bK (lkB D) k ||| 2 ^ k)) 61 38 = nI (bK (lkB D) k ||| 2 ^ k) := rs_u2_eq _ _ _ _
      have fi1 : fY I (rs_u2 I 61 38 (nI (bK (lkB D) k ||| 2 ^ k))) := fun q j a => rs_u2_ne _ _ (by omega)
      have r1 : rInv (rs_u2 I 61 38 (nI (bK (lkB D) k ||| 2 ^ k)) 61 32) (rs_u2 I 61 38 (nI (bK (lkB D) k ||| 2 ^ k)) 61 33) (rs_u2 I 61 38 (nI (bK (lkB D) k ||| 2 ^ k)) 61 34) := by
        rw [rs_u2_ne _ _ (by omega), rs_u2_ne _ _ (by omega), rs_u2_ne _ _ (by omega)]; exact hR
      simp (disch := omega) only [g_X12_shopAll_50, g_X12_shopAll_51, g_X12_shopAll_52, g_X12_shopAll_55, g_X12_shopAll_56, g_X12_shopAll_57, g_X12_shopAll_58, g_X12_shopAll_59, g_X12_shopAll_62, g_X12_shopAll_63, g_X12_shopAll_64, g_X12_shopAll_67, lk_X12_shopAll, XI, Nat.reduceAdd, Nat.reduceEqDiff, not_false_eq_true, nI_T1, nI_T0, true_and, and_true, WC, WV, WU, a38, bt_shl, Nat.one_mul, bt_or, s_X12_packs, hP2.1, nI_eq0S]
      generalize rs_u2 I 61 38 (nI (bK (lkB D) k ||| 2 ^ k)) = I1 at *
      have unc : ¬ (0 < (D.ig k).pk.length ∧ lkD D k ≤ 5000) → rs_X (d + 6) yX12_shopAll 82 [some (.ref 61), some (.int (nI k))] [] (sk_w P n s I1 (rs_u2 J 81 k (lN 0)) R) Q := fun hc => by
        have nc : ¬ cov D k := fun z => hc z.2
        have e1 : aP D w k = 0 := fA_f nc
        have e2 : aW D w k = 0 := fA_f nc
        have e3 : aG D w k = 0 := fA_f nc
        have e5 : unB D k = true := (unB_i D k).mpr ⟨h0, hc⟩
        rw [if_pos e5, e1, e2] at ih2
        simp (disch := omega) only [g_X12_shopAll_82, g_X12_shopAll_83, g_X12_shopAll_84, g_X12_shopAll_87, g_X12_shopAll_88, g_X12_shopAll_89, g_X12_shopAll_90, g_X12_shopAll_91, g_X12_shopAll_94, lk_X12_shopAll, g_X12_shopAll_162, g_X12_shopAll_165, lk_X12_shopAll, XI, Nat.reduceAdd, Nat.reduceEqDiff, not_false_eq_true, nI_T1, nI_T0, true_and, and_true, WC, WV, WU, i39, bt_shl, Nat.one_mul, bt_or, nI_addS]
        refine ih2 _ _ (fY_t fi (fY_t fi1 (fun q j a => rs_u2_ne _ _ (by omega)))) (fZ_t fj (fun q j a b c e f => rs_u2_ne _ _ (fun z => f z.1))) ?_ ⟨?_, ?_, ?_, ?_, rs_u2_eq _ _ _ _, fun j hj => ?_⟩
        · rw [rs_u2_ne _ _ (by omega), rs_u2_ne _ _ (by omega), rs_u2_ne _ _ (by omega)]; exact r1
        · rw [rs_u2_ne _ _ (by omega)]; exact a35
        · rw [rs_u2_ne _ _ (by omega)]; exact a36
        · rw [rs_u2_ne _ _ (by omega), e3]; exact a37
        · rw [rs_u2_ne _ _ (by omega)]; exact i38
        · by_cases e : j = k
          · rw [e, rs_u2_eq, e3]
          · rw [rs_u2_ne _ _ (fun z => e z.2)]
            exact a81 j (by omega)
      by_cases c0 : (D.ig k).pk.length = 0
      · rw [if_pos c0]
        exact unc (fun z => by omega)
      · rw [if_neg c0]
        simp (disch := omega) only [g_X12_shopAll_70, g_X12_shopAll_71, g_X12_shopAll_72, g_X12_shopAll_75, g_X12_shopAll_78, g_X12_shopAll_79, lk_X12_shopAll, XI, Nat.reduceAdd, Nat.reduceEqDiff, not_false_eq_true, nI_T1, nI_T0, true_and, and_true, WC, WV, WU, lo I1 _ j0a j0b i62, le5]
        by_cases c5 : lkD D k ≤ 5000
        · rw [if_pos c5]
          have hcv : cov D k := ⟨h0, by omega, c5⟩
          have hp := pkOk_of hD hk12 c0
          have hb := hw k hk12 hcv
          have hb1 := hb.1
          have hb2 := hb.2.1
          have hb4 := hb.2.2.2.1
          have e1 : aP D w k = prc (D.ig k).pk (w k).2.1 (w k).2.2.1 (w k).2.2.2 := fA_t hcv
          have e2 : aW D w k = (w k).1 - lkD D k := fA_t hcv
          have e3 : aG D w k = (w k).1 := fA_t hcv
          have e5 : ¬ unB D k = true := fun z => ((unB_i D k).mp z).2 ⟨by omega, c5⟩
          rw [if_neg e5, e1, e2, e3] at ih2
          simp (disch := omega) only [g_X12_shopAll_97, g_X12_shopAll_98, g_X12_shopAll_99, lk_X12_shopAll, XI, Nat.reduceAdd, Nat.reduceEqDiff, not_false_eq_true, nI_T1, nI_T0, true_and, and_true, WC, WV, WU]
          have g5' : I1 62 (240 + 14 * k + 6) = nI (D.ig k).stk := by rw [i62]; exact g5
          refine s_shop P n s R d _ I1 _ hk12 hp hP2 hF hg.2.2.2.2.1 (by rw [j0a]; exact m1) (by rw [j0b]; exact m2) g5' elk (by omega) c5 hb r1 (fun I2 J2 k1 k2 k3 k4 k5 k6 => ?_)
          have hP3 := mPk_X k1 hP2
          have t35 : J2 61 35 = lN (sK (aP D w) k) := by rw [k2 61 35 (by omega) (by decide) (by decide) (by decide), rs_u2_ne _ _ (by omega)]; exact a35
          have t36 : J2 61 36 = lN (sK (aW D w) k) := by rw [k2 61 36 (by omega) (by decide) (by decide) (by decide), rs_u2_ne _ _ (by omega)]; exact a36
          have t37 : J2 61 37 = lN (sK (aG D w) k) := by rw [k2 61 37 (by omega) (by decide) (by decide) (by decide), rs_u2_ne _ _ (by omega)]; exact a37
          have C1 : ∀ v, mC (rs_u2 J2 81 k v) 79 (w k).2.1 (w k).2.2.1 (w k).2.2.2 := fun v j hj => by rw [rs_u2_ne _ _ (by omega)]; exact k4 j hj
          simp (disch := omega) only [g_X12_shopAll_102, g_X12_shopAll_103, g_X12_shopAll_106, g_X12_shopAll_107, g_X12_shopAll_108, g_X12_shopAll_111, g_X12_shopAll_112, g_X12_shopAll_113, g_X12_shopAll_114, g_X12_shopAll_117, g_X12_shopAll_118, g_X12_shopAll_119, g_X12_shopAll_120, g_X12_shopAll_123, g_X12_shopAll_124, g_X12_shopAll_127, g_X12_shopAll_128, g_X12_shopAll_131, g_X12_shopAll_132, g_X12_shopAll_133, g_X12_shopAll_136, g_X12_shopAll_137, g_X12_shopAll_140, g_X12_shopAll_141, g_X12_shopAll_144, g_X12_shopAll_145, g_X12_shopAll_146, g_X12_shopAll_149, g_X12_shopAll_150, g_X12_shopAll_151, g_X12_shopAll_154, g_X12_shopAll_155, g_X12_shopAll_158, g_X12_shopAll_159, g_X12_shopAll_162, g_X12_shopAll_165, lk_X12_shopAll, XI, Nat.reduceAdd, Nat.reduceEqDiff, not_false_eq_true, nI_T1, nI_T0, true_and, and_true, WC, WV, WU, nI_cl, rs_in_t, k5, k6, rs_u2_ne, t35, t36, t37, s_so_p79 P n s I2 _ R _ _ hk12 hp hP3 (C1 _), lN_add, lN_sub, nI_addS]
          refine ih2 I2 _ (fY_t fi (fY_t fi1 (fX_Y k1))) (fZ_t fj (fun q j a b c e f => ?_)) k3 ⟨?_, ?_, ?_, ?_, ?_, fun j hj => ?_⟩
          · rw [rs_u2_ne _ _ (by omega), rs_u2_ne _ _ (by omega), rs_u2_ne _ _ (by omega), rs_u2_ne _ _ (by omega), k2 q j (by omega) b c e, rs_u2_ne _ _ (by omega)]
          · rw [rs_u2_ne _ _ (by omega), rs_u2_ne _ _ (by omega), rs_u2_eq]
          · rw [rs_u2_ne _ _ (by omega), rs_u2_eq]
          · rw [rs_u2_eq]
          · rw [k1 61 38 (by omega)]; exact i38
          · rw [k1 61 39 (by omega)]; exact i39
          · by_cases e : j = k
            · rw [e, rs_u2_ne _ _ (by omega), rs_u2_ne _ _ (by omega), rs_u2_ne _ _ (by omega), rs_u2_eq, e3]
            · rw [rs_u2_ne _ _ (by omega), rs_u2_ne _ _ (by omega), rs_u2_ne _ _ (by omega), rs_u2_ne _ _ (fun z => e z.2), k2 81 j (by omega) (by decide) (by decide) (by decide), rs_u2_ne _ _ (fun z => e z.2)]
              exact a81 j (by omega)
        · rw [if_neg c5]
          exact unc (fun z => c5 z.2)
theorem s_shopAll {D : Dt} (hD : D.ok) {w : Nat → Nat × Nat × Nat × Nat} (hw : chs D w) (I : Nat → Nat → Int32) (J : Nat → Nat → Int64) (hM : mDt (I 62) D) (hm : mS J 67 68 12 (aftD D)) (hR : rInv (I 61 32) (I 61 33) (I 61 34)) (hQ : ∀ I' J', fY I I' → fZ J J' → rInv (I' 61 32) (I' 61 33) (I' 61 34) → rA D w I' J' 12 → Q (sk_w P n s I' J' R) none) : rs_XM (d + 6) yX12_shopAll [.ref 61] (sk_w P n s I J R) Q := by
  rw [em_X12_shopAll]
  simp (disch := omega) only [g_X12_shopAll_0, g_X12_shopAll_1, g_X12_shopAll_2, g_X12_shopAll_5, g_X12_shopAll_6, g_X12_shopAll_7, g_X12_shopAll_10, g_X12_shopAll_11, g_X12_shopAll_12, g_X12_shopAll_15, g_X12_shopAll_16, g_X12_shopAll_17, g_X12_shopAll_20, g_X12_shopAll_21, g_X12_shopAll_22, g_X12_shopAll_25, g_X12_shopAll_26, lk_X12_shopAll, XI, Nat.reduceAdd, Nat.reduceEqDiff, not_false_eq_true, nI_T1, nI_T0, true_and, and_true, WC, WV, WU]
  refine X12_sa_l P n s R d Q hD hw I J hM hm hQ 12 0 _ _ rfl (fun q j a => ?_) (fun q j a b c e f => ?_) ?_ ⟨?_, ?_, ?_, ?_, ?_, fun j hj => absurd hj (Nat.not_lt_zero j)⟩
  · rw [rs_u2_ne _ _ (by omega), rs_u2_ne _ _ (by omega)]
  · rw [rs_u2_ne _ _ (by omega), rs_u2_ne _ _ (by omega), rs_u2_ne _ _ (by omega)]
  · rw [rs_u2_ne _ _ (by omega), rs_u2_ne _ _ (by omega), rs_u2_ne _ _ (by omega), rs_u2_ne _ _ (by omega), rs_u2_ne _ _ (by omega), rs_u2_ne _ _ (by omega)]; exact hR
  · rw [rs_u2_ne _ _ (by omega), rs_u2_ne _ _ (by omega), rs_u2_eq]; rfl
  · rw [rs_u2_ne _ _ (by omega), rs_u2_eq]; rfl
  · rw [rs_u2_eq]; rfl
  · rw [rs_u2_ne _ _ (by omega), rs_u2_eq]; rfl
  · rw [rs_u2_eq]; rfl
end
