/-! the reference: whether a substitution's condition holds -/
section
variable (P : Nat → Option rs_C) (n s : Nat) (I : Nat → Nat → Int32) (J : Nat → Nat → Int64) (R : Nat → Nat → Option Nat) (d : Nat) (Q : rs_H → Option Value → Prop)
theorem s_X12_isAbove {S : Nat → Nat × Nat} (hS : stOk S) (hm : mS J 67 68 12 S) {i v : Nat} (hi : i < 12) (hv : v ≤ 1000000) : rs_XM d yX12_isAbove [.ref 61, .int (nI i), .long (lN v)] (sk_w P n s I J R) Q ↔ Q (sk_w P n s I J R) (some (.int (rs_b (v * (S i).2 < (S i).1)))) := by
  have hq := hS i hi
  have h1 : v * (S i).2 ≤ 1000000 * 1000000000 := Nat.mul_le_mul hv hq.2.2.1
  have h2 := hq.1
  rw [em_X12_isAbove]
  simp (disch := omega) only [K_X12_isAbove, lk_X12_isAbove, XI, Nat.reduceAdd, Nat.reduceEqDiff, not_false_eq_true, nI_T1, nI_T0, true_and, and_true, WC, WV, WU, nI_cl, rs_in_t, (hm i hi).1, (hm i hi).2, lN_mul, lg_cmp_le, lg_cmp_gt, pk_lLE (show (S i).1 < 2 ^ 63 by omega) (show v * (S i).2 < 2 ^ 63 by omega), pk_lLT (show v * (S i).2 < 2 ^ 63 by omega) (show (S i).1 < 2 ^ 63 by omega)]
  by_cases h : (S i).1 ≤ v * (S i).2
  · rw [if_pos h, rs_b_f (by omega)]
  · rw [if_neg h, rs_b_t (by omega)]
theorem s_X12_holds {D : Dt} (hM : mDt (I 62) D) (hD : D.ok) {S : Nat → Nat × Nat} (hS : stOk S) (hm : mS J 67 68 12 S) {k : Nat} (hk : k < 6) {t : Sb} (hs : D.sb[k]? = some t) : rs_XM (d + 2) yX12_holds [.ref 61, .int (nI k)] (sk_w P n s I J R) Q ↔ Q (sk_w P n s I J R) (some (.int (rs_b (hol D t S = true)))) := by
  have ht := hD.2.2.2.1 k t hs
  have hx := ht.1
  obtain ⟨f0, f1, f2, f3, f4, f5⟩ := hM.2.2.2.1 k t hs
  obtain ⟨g0, g1, g2, g3, g4, g5⟩ := hM.2.1 t.x hx
  have hg := hD.2.1 t.x hx
  have hc := hg.2.2.1
  have htr := hg.2.2.2.1
  have hstk := hg.2.2.2.2.1
  have hki := ht.2.2.2.2.2.2.2.1
  have hv := ht.2.2.2.2.2.2.2.2.1
  have hv1 := ht.2.2.2.2.2.2.2.2.2.1
  have hor : (D.ig t.x).con ||| (D.ig t.x).tra < 2 ^ 8 := Nat.or_lt_two_pow (by omega) (by omega)
  rw [em_X12_holds]
  unfold hol
  simp (disch := omega) only [K_X12_holds, lk_X12_holds, XI, Nat.reduceAdd, Nat.reduceEqDiff, not_false_eq_true, nI_T1, nI_T0, true_and, and_true, WC, WV, WU, nI_mulS, nI_addS, nI_cl, rs_in_t, f0, f4, f5, nI_eqS, s_X12_at, g2, g3, g4, nI_long (show t.va ≤ 1000000000 by omega), nI_long (show (D.ig t.x).stk ≤ 1000000000 by omega), s_X12_isAbove P n s I J R _ _ hS hm hx (show t.va ≤ 1000000 by omega), s_X12_isAbove P n s I J R _ _ hS hm hx (show (D.ig t.x).stk ≤ 1000000 by omega), rs_b_ok]
  by_cases e0 : t.ki = 0
  · simp only [e0, if_true, if_false, Nat.reduceEqDiff, rs_b_T]
  · by_cases e1 : t.ki = 1
    · have hv7 := hv1 e1
      have hdl : ((D.ig t.x).con ||| (D.ig t.x).tra) / 2 ^ t.va ≤ (D.ig t.x).con ||| (D.ig t.x).tra := Nat.div_le_self _ _
      have hml : ((D.ig t.x).con ||| (D.ig t.x).tra) / 2 ^ t.va % 2 < 2 := Nat.mod_lt _ (by decide)
      simp (disch := omega) only [e1, if_true, if_false, Nat.reduceEqDiff, bt_or, bt_shr, bt_and1, nI_eqS]
      by_cases hb : ((D.ig t.x).con ||| (D.ig t.x).tra).testBit t.va = true
      · have e := (not_congr (bt_tb ((D.ig t.x).con ||| (D.ig t.x).tra) t.va)).mpr (fun z => z hb)
        rw [if_neg (by omega), rs_b_t hb]
      · have e := (bt_tb ((D.ig t.x).con ||| (D.ig t.x).tra) t.va).mpr hb
        rw [if_pos (by omega), rs_b_f hb]
    · by_cases e2 : t.ki = 2
      · simp only [e2, if_true, if_false, Nat.reduceEqDiff, decide_eq_true_eq]
      · have e3 : t.ki = 3 := by omega
        simp only [e3, if_true, if_false, Nat.reduceEqDiff, decide_eq_true_eq]
end
