/-! the reference: whether a substitution's condition holds -/
section
variable (P : Nat → Option rs_C) (n s : Nat) (I : Nat → Nat → Int32) (J : Nat → Nat → Int64) (R : Nat → Nat → Option Nat) (d : Nat) (Q : rs_H → Option Value → Prop)
theorem s_X12_isAbove {S : Nat → Nat × Nat} (hS : stOk S) (hm : mS J 67 68 12 S) {i v : Nat} (hi : i < 12) (hv : v ≤ 1000000) : rs_XM d yX12_isAbove [.ref 61, .int (nI i), .long (lN v)] (sk_w P n s I J R) Q ↔ Q (sk_w P n s I J R) (some (.int (rs_b (v * (S i).2 < (S i).1)))) := by
  have hq := hS i hi
  have h1 : v * (S i).2 ≤ 1000000 * 1000000000 := Nat.mul_le_mul hv hq.2.2.1
  have h2 := hq.1
  rw [em_X12_isAbove]
  simp (disch := omega) only [K_X12_isAbove, lk_X12_isAbove, XI, Nat.reduceAdd, Nat.reduceEqDiff, not_false_eq_true, nI_T1, nI_T0, true_and, and_true, WC, WV, WU, nI_cl, rs_in_t, (hm i hi).1, (hm i hi).2, lN_mul, lg_cmp_le, lg_cmp_gt, pk_lLE (show (S i).1 < 2 ^ 63 by omega) (show v * (S i).2 < 2 ^ 63 by omega), pk_lLT (show v * (S i).2 < 2 ^ 63 by omega) (show (S i).1 < 2 ^ 63 by omega)]
  by_cases h : (S i).1 ≤ v * (S i).2
  · rw [if_pos h, rs_b_f (by omega)]
  · rw [if_neg h, rs_b_t (by omega)]
end
