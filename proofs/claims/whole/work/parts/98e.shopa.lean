/-! the reference's whole shopping -/
section
variable (P : Nat → Option rs_C) (n s : Nat) (R : Nat → Nat → Option Nat) (d : Nat) (Q : rs_H → Option Value → Prop)
theorem X12_sa_l {D : Dt} (hD : D.ok) {w : Nat → Nat × Nat × Nat × Nat} (hw : chs D w) (I0 : Nat → Nat → Int32) (J0 : Nat → Nat → Int64) (hM : mDt (I0 62) D) (hm : mS J0 67 68 12 (aftD D)) (hQ : ∀ I' J', fY I0 I' → fZ J0 J' → rInv (I' 61 32) (I' 61 33) (I' 61 34) → rA D w I' J' 12 → Q (sk_w P n s I' J' R) none) :
    ∀ (m k : Nat) (I : Nat → Nat → Int32) (J : Nat → Nat → Int64), k + m = 12 → fY I0 I → fZ J0 J → rInv (I 61 32) (I 61 33) (I 61 34) → rA D w I J k → rs_X (d + 6) yX12_shopAll 27 [some (.ref 61), some (.int (nI k))] [] (sk_w P n s I J R) Q := by
  intro m
  induction m with
  | zero =>
    intro k I J hk fi fj hR hA
    have : k = 12 := by omega
    subst this
    rw [g_X12_shopAll_27]
    simp (disch := omega) only [g_X12_shopAll_28, g_X12_shopAll_30, lk_X12_shopAll, g_X12_shopAll_168, lk_X12_shopAll, XI, Nat.reduceAdd, Nat.reduceEqDiff, not_false_eq_true, nI_T1, nI_T0, true_and, and_true, WC, WV, WU, nI_leS, Nat.le_refl, if_true]
    exact hQ I J fi fj hR hA
  | succ m ih =>
    intro k I J hk fi fj hR hA
    have hk12 : k < 12 := by omega
    obtain ⟨a35, a36, a37, a38, a39, a81⟩ := hA
    have hg := hD.2.1 k hk12
    have hF := aftD_ok hD k hk12
    have hl9 := lkD_le hD hk12
    have l1 := bK_le (lkB D) k (by omega)
    have l2 := bK_le (unB D) k (by omega)
    have ep := pow_lt12 hk12
    have s1 := sK_le (fun i hi => aP_le hD hw hi) k (by omega)
    have s2 := sK_le (f := aW D w) (m := 7000) (fun i hi => by have := (aG_le hw hi).2; omega) k (by omega)
    have s3 := sK_le (f := aG D w) (m := 7000) (fun i hi => by have := (aG_le hw hi).1; omega) k (by omega)
    have e62 : I 62 = I0 62 := funext fun j => fi 62 j (by omega)
    have hM1 : mDt (I 62) D := by rw [e62]; exact hM
    have hP := mPk_of hM1 hk12
    obtain ⟨g1, g2, g3, g4, g5, g6, g7⟩ := hM1.2.1 k hk12
    have m1 : J 67 k = lN (aftD D k).1 := by rw [fj 67 k (by omega) (by decide) (by decide) (by decide) (by decide)]; exact (hm k hk12).1
    have m2 : J 68 k = lN (aftD D k).2 := by rw [fj 68 k (by omega) (by decide) (by decide) (by decide) (by decide)]; exact (hm k hk12).2
    have elk : up1 (aftD D k) - (D.ig k).stk = lkD D k := rfl
    have ih2 := fun I' J' => ih (k + 1) I' J' (by omega)
    unfold rA at ih2
    simp only [sK_s, bK_s] at ih2
    have lo : ∀ I' J', (∀ j, J' 67 j = J 67 j) → (∀ j, J' 68 j = J 68 j) → I' 62 = I 62 → ∀ (d : Nat) (Q : rs_H → Option Value → Prop), rs_XM (d + 1) yX12_lackOf [.ref 61, .int (nI k)] (sk_w P n s I' J' R) Q ↔ Q (sk_w P n s I' J' R) (some (.long (lN (lkD D k)))) := fun I' J' h1 h2 h3 d Q => s_lackOf P n s R d Q I' J' hk12 hF hg.2.2.2.2.1 (by rw [h1]; exact m1) (by rw [h2]; exact m2) (by rw [h3]; exact g5)
    have j0a : ∀ j, rs_u2 J 81 k (lN 0) 67 j = J 67 j := fun j => rs_u2_ne _ _ (by omega)
    have j0b : ∀ j, rs_u2 J 81 k (lN 0) 68 j = J 68 j := fun j => rs_u2_ne _ _ (by omega)
    have hgt : (0 < lg_cmp (lN (lkD D k)) (lN 0)) ↔ 0 < lkD D k := by rw [lg_cmp_gt, pk_lLT (by decide) (by omega)]
    have hle : (lg_cmp (lN (lkD D k)) (lN 0) ≤ 0) ↔ lkD D k = 0 := by rw [lg_cmp_le, pk_lLE (by omega) (by decide)]; omega
    rw [g_X12_shopAll_27]
    simp (disch := omega) only [g_X12_shopAll_28, g_X12_shopAll_30, g_X12_shopAll_33, g_X12_shopAll_34, g_X12_shopAll_37, g_X12_shopAll_38, g_X12_shopAll_39, g_X12_shopAll_40, g_X12_shopAll_41, g_X12_shopAll_42, g_X12_shopAll_45, g_X12_shopAll_46, g_X12_shopAll_47, lk_X12_shopAll, XI, Nat.reduceAdd, Nat.reduceEqDiff, not_false_eq_true, nI_T1, nI_T0, true_and, and_true, WC, WV, WU, nI_leS, nI_cl, rs_in_t, lo I _ j0a j0b rfl, hgt, hle]
    rw [if_neg (by omega)]
    by_cases h0 : lkD D k = 0
    · have nc : ¬ cov D k := fun z => z.1 h0
      have e1 : aP D w k = 0 := fA_f nc
      have e2 : aW D w k = 0 := fA_f nc
      have e3 : aG D w k = 0 := fA_f nc
      have e4 : ¬ lkB D k = true := fun z => (lkB_i D k).mp z h0
      have e5 : ¬ unB D k = true := fun z => ((unB_i D k).mp z).1 h0
      rw [if_neg e4, if_neg e5, e1, e2] at ih2
      rw [if_pos h0]
      simp (disch := omega) only [g_X12_shopAll_162, g_X12_shopAll_165, lk_X12_shopAll, XI, Nat.reduceAdd, Nat.reduceEqDiff, not_false_eq_true, nI_T1, nI_T0, true_and, and_true, WC, WV, WU, nI_addS]
      refine ih2 I _ fi (fZ_t fj (fun q j a b c e f => rs_u2_ne _ _ (fun z => f z.1))) hR ⟨?_, ?_, ?_, a38, a39, fun j hj => ?_⟩
      · rw [rs_u2_ne _ _ (by omega)]; exact a35
      · rw [rs_u2_ne _ _ (by omega)]; exact a36
      · rw [rs_u2_ne _ _ (by omega), e3]; exact a37
      · by_cases e : j = k
        · rw [e, rs_u2_eq, e3]
        · rw [rs_u2_ne _ _ (fun z => e z.2)]
          exact a81 j (by omega)
    · have e4 : lkB D k = true := (lkB_i D k).mpr h0
      rw [if_pos e4] at ih2
      rw [if_neg h0]
      exact ()
end
