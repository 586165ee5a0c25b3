/-! the question for the shopping -/
theorem cls_p {pk : List (Nat × Nat)} (h : pkOk pk) {B a b c : Nat} (hB : B < 7000) (hr : Rch pk B a b c) : (67108863 + wgt pk a b c) / 2 ^ 39 = prc pk a b c ∧ (67108863 + wgt pk a b c) / 2 ^ 26 % 8192 = a + b + c ∧ (67108863 + wgt pk a b c) / 2 ^ 13 % 8192 = 8191 - a ∧ (67108863 + wgt pk a b c) % 8192 = 8191 - b := by
  have hn := Rch_n h hr
  have d := enc_d pk (c := c) (show a ≤ 8191 by omega) (show b ≤ 8191 by omega)
  rw [d]
  have e1 : (prc pk a b c * 549755813888 + (a + b + c) * 67108864 + (8191 - a) * 8192 + (8191 - b)) / 2 ^ 26 = prc pk a b c * 8192 + (a + b + c) := by omega
  have e2 : (prc pk a b c * 549755813888 + (a + b + c) * 67108864 + (8191 - a) * 8192 + (8191 - b)) / 2 ^ 13 = (prc pk a b c * 8192 + (a + b + c)) * 8192 + (8191 - a) := by omega
  refine ⟨by omega, ?_, ?_, by omega⟩
  · rw [e1, Nat.mul_comm, Nat.mul_add_mod, Nat.mod_eq_of_lt (by omega)]
  · rw [e2, Nat.mul_comm, Nat.mul_add_mod, Nat.mod_eq_of_lt (by omega)]
section
variable (P : Nat → Option rs_C) (n s : Nat) (I : Nat → Nat → Int32) (J : Nat → Nat → Int64) (R : Nat → Nat → Option Nat) (d : Nat) (Q : rs_H → Option Value → Prop)
theorem s_cWaste : rs_XM d yX6_chosenWaste [.ref 56] (sk_w P n s I J R) Q ↔ Q (sk_w P n s I J R) (some (.int (I 56 3))) := by
  rw [em_X6_chosenWaste]
  simp (disch := omega) only [K_X6_chosenWaste, lk_X6_chosenWaste, XI, Nat.reduceAdd, Nat.reduceEqDiff, not_false_eq_true, nI_T1, nI_T0, true_and, and_true, WC, WV, WU]
theorem s_cGrams : rs_XM d yX6_chosenGrams [.ref 56] (sk_w P n s I J R) Q ↔ Q (sk_w P n s I J R) (some (.int (I 56 2))) := by
  rw [em_X6_chosenGrams]
  simp (disch := omega) only [K_X6_chosenGrams, lk_X6_chosenGrams, XI, Nat.reduceAdd, Nat.reduceEqDiff, not_false_eq_true, nI_T1, nI_T0, true_and, and_true, WC, WV, WU]
theorem lsh {v k : Nat} (hv : v < 4611686018427387904) (hk : k < 64) : lN v >>> ((nI k).toInt64 &&& 63) = lN (v / 2 ^ k) := by
  refine pf_shr ?_ hv
  rw [wb_c k hk, wb_tb, wb_sm k hk, BitVec.toNat_ofNat, Nat.mod_eq_of_lt (by omega)]
theorem s_cPrice {pk : List (Nat × Nat)} (h : pkOk pk) {B a b c : Nat} (hB : B < 7000) (hr : Rch pk B a b c) (h1 : J 56 1 = lN (67108863 + wgt pk a b c)) : rs_XM d yX6_chosenPrice [.ref 56] (sk_w P n s I J R) Q ↔ Q (sk_w P n s I J R) (some (.int (nI (prc pk a b c)))) := by
  have hw := wgt_le h hr
  have hp := (cls_p h hB hr).1
  rw [em_X6_chosenPrice]
  simp (disch := omega) only [K_X6_chosenPrice, lk_X6_chosenPrice, XI, Nat.reduceAdd, Nat.reduceEqDiff, not_false_eq_true, nI_T1, nI_T0, true_and, and_true, WC, WV, WU, h1, lsh, hp, lN_i]
theorem s_cNumber {pk : List (Nat × Nat)} (h : pkOk pk) {B a b c k : Nat} (hk : k < 3) (hB : B < 7000) (hr : Rch pk B a b c) (h1 : J 56 1 = lN (67108863 + wgt pk a b c)) : rs_XM d yX6_chosenNumber [.ref 56, .int (nI k)] (sk_w P n s I J R) Q ↔ Q (sk_w P n s I J R) (some (.int (nI (cnt a b c k)))) := by
  have hw := wgt_le h hr
  have hn := Rch_n h hr
  obtain ⟨p1, p2, p3, p4⟩ := cls_p h hB hr
  have m1 : ∀ v, v < 4611686018427387904 → lN v &&& lN 8191 = lN (v % 8192) := fun v hv => wb_mask (n := v) (k := 13) (by omega) (by decide)
  have l1 : (67108863 + wgt pk a b c) / 2 ^ 13 ≤ 67108863 + wgt pk a b c := Nat.div_le_self _ _
  have l2 : (67108863 + wgt pk a b c) / 2 ^ 26 ≤ 67108863 + wgt pk a b c := Nat.div_le_self _ _
  have s1 : 8191 - (8191 - a) = a := by omega
  have s2 : 8191 - (8191 - b) = b := by omega
  rw [em_X6_chosenNumber]
  simp (disch := omega) only [K_X6_chosenNumber, lk_X6_chosenNumber, XI, Nat.reduceAdd, Nat.reduceEqDiff, not_false_eq_true, nI_T1, nI_T0, true_and, and_true, WC, WV, WU, h1, lsh, m1, p2, p3, p4, lN_sub, s1, s2, lN_i, nI_subS, nI_eq0S, nI_eqS]
  have k3 : k = 0 ∨ k = 1 ∨ k = 2 := by omega
  rcases k3 with e | e | e
  · subst e
    simp only [not_true_eq_false, if_false]
    exact Iff.rfl
  · subst e
    simp (config := { decide := true }) only [if_true, if_false]
    exact Iff.rfl
  · subst e
    simp (config := { decide := true }) only [if_true, if_false]
    rw [show a + b + c - a - b = c by omega]
    exact Iff.rfl
end
