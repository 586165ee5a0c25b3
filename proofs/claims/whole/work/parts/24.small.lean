/-! small methods of the class and of the reference -/
theorem nI_cl {n : Nat} (h : n < 2147483648) : (nI n).toNatClampNeg = n := nI_clamp h
theorem rs_in_t {j n : Nat} (h : j < n) (hn : n < 2147483648) : rs_in (nI j) n ↔ True := ⟨fun _ => trivial, fun _ => rs_in_nI h hn⟩
theorem nI_ltS {a b : Nat} (ha : a < 2147483648) (hb : b < 2147483648) : (nI a < nI b) ↔ a < b := nI_ltI ha hb
theorem nI_leS {a b : Nat} (ha : a < 2147483648) (hb : b < 2147483648) : (nI a ≤ nI b) ↔ a ≤ b := nI_leI ha hb
theorem nI_eqS {a b : Nat} (ha : a < 2147483648) (hb : b < 2147483648) : (nI a = nI b) ↔ a = b := nI_eq ha hb
theorem nI_lt0S {n : Nat} (h : n < 2147483648) : (nI n < 0) ↔ False := nI_lt0 h
theorem nI_ge0S {n : Nat} (h : n < 2147483648) : (0 ≤ nI n) ↔ True := nI_0le h
theorem nI_eq0S {n : Nat} (h : n < 2147483648) : (nI n = 0) ↔ n = 0 := nI_eq0 h
theorem nI_gt0S {n : Nat} (h : n < 2147483648) : (0 < nI n) ↔ 0 < n := by rw [← nI_0]; exact nI_ltI (by decide) h
theorem nI_le0S {n : Nat} (h : n < 2147483648) : (nI n ≤ 0) ↔ n = 0 := by
  rw [← nI_0, nI_leI h (by decide)]; omega
theorem nI_subS {a b : Nat} (h : b ≤ a) : nI a - nI b = nI (a - b) := pk_sub h
theorem nI_11 : (nI 1 = 1) ↔ True := ⟨fun _ => trivial, fun _ => rfl⟩
theorem nI_00 : (nI 0 = 0) ↔ True := ⟨fun _ => trivial, fun _ => rfl⟩
theorem s_X11_isPart (d : Nat) (w : rs_H) (Q : rs_H → Option Value → Prop) (a : Int32) : rs_XM (d + 1) yX11_isPart [.int a] w Q ↔ Q w (some (.int (rs_b (nI 0 ≤ a ∧ a ≤ nI 1)))) := by
  rw [em_X11_isPart]
  simp only [K_X11_isPart, lk_X11_isPart, XI, Nat.reduceAdd, Nat.reduceEqDiff, not_false_eq_true, nI_T1, nI_T0, true_and, and_true, s_X11_isWithin, rs_b_ok]
theorem s_X11_isByte (d : Nat) (w : rs_H) (Q : rs_H → Option Value → Prop) (a : Int32) : rs_XM (d + 1) yX11_isByte [.int a] w Q ↔ Q w (some (.int (rs_b (nI 0 ≤ a ∧ a ≤ nI 127)))) := by
  rw [em_X11_isByte]
  simp only [K_X11_isByte, lk_X11_isByte, XI, Nat.reduceAdd, Nat.reduceEqDiff, not_false_eq_true, nI_T1, nI_T0, true_and, and_true, s_X11_isWithin, rs_b_ok]
theorem s_X11_isIngredient (d : Nat) (w : rs_H) (Q : rs_H → Option Value → Prop) (a : Int32) : rs_XM (d + 1) yX11_isIngredient [.int a] w Q ↔ Q w (some (.int (rs_b (nI 0 ≤ a ∧ a ≤ nI 11)))) := by
  rw [em_X11_isIngredient]
  simp only [K_X11_isIngredient, lk_X11_isIngredient, XI, Nat.reduceAdd, Nat.reduceEqDiff, not_false_eq_true, nI_T1, nI_T0, true_and, and_true, s_X11_isWithin, rs_b_ok]
theorem s_X11_isRecipe (d : Nat) (w : rs_H) (Q : rs_H → Option Value → Prop) (a : Int32) : rs_XM (d + 1) yX11_isRecipe [.int a] w Q ↔ Q w (some (.int (rs_b (nI 0 ≤ a ∧ a ≤ nI 7)))) := by
  rw [em_X11_isRecipe]
  simp only [K_X11_isRecipe, lk_X11_isRecipe, XI, Nat.reduceAdd, Nat.reduceEqDiff, not_false_eq_true, nI_T1, nI_T0, true_and, and_true, s_X11_isWithin, rs_b_ok]
theorem s_X11_partOf (d : Nat) (w : rs_H) (Q : rs_H → Option Value → Prop) {q : Nat × Nat} (hq : isF q) (a : Int32) : rs_XM (d + 1) yX11_partOf [.long (pkF q), .int a] w Q ↔ Q w (some (.long (lN (if a = 0 then q.1 else q.2)))) := by
  rw [em_X11_partOf]
  simp only [K_X11_partOf, lk_X11_partOf, XI, Nat.reduceAdd, Nat.reduceEqDiff, not_false_eq_true, nI_T1, nI_T0, true_and, and_true, s_X0_up _ _ _ hq, s_X0_down _ _ _ hq, nI_long hq.1, nI_long hq.2.2.1]
  by_cases h : a = 0
  · simp only [h, not_true_eq_false, if_true, if_false]
  · simp only [h, not_false_eq_true, if_true, if_false]
theorem s_X12_in (d : Nat) (w : rs_H) (Q : rs_H → Option Value → Prop) (a b c : Int32) : rs_XM d yX12_in [.int a, .int b, .int c] w Q ↔ Q w (some (.int (rs_b (b ≤ a ∧ a ≤ c)))) := by
  rw [em_X12_in]
  simp only [K_X12_in, lk_X12_in, XI, Nat.reduceAdd, Nat.reduceEqDiff, not_false_eq_true, nI_T1, nI_T0, true_and, and_true]
  by_cases h1 : a < b
  · rw [if_pos h1, rs_b_f (fun z => absurd h1 (Int32.not_lt.mpr z.1))]
  · rw [if_neg h1]
    by_cases h2 : c < a
    · rw [if_pos h2, rs_b_f (fun z => absurd h2 (Int32.not_lt.mpr z.2))]
    · rw [if_neg h2, rs_b_t ⟨Int32.not_lt.mp h1, Int32.not_lt.mp h2⟩]
theorem s_X12_isIngredient (d : Nat) (w : rs_H) (Q : rs_H → Option Value → Prop) (a : Int32) : rs_XM (d + 1) yX12_isIngredient [.int a] w Q ↔ Q w (some (.int (rs_b (nI 0 ≤ a ∧ a ≤ nI 11)))) := by
  rw [em_X12_isIngredient]
  simp only [K_X12_isIngredient, lk_X12_isIngredient, XI, Nat.reduceAdd, Nat.reduceEqDiff, not_false_eq_true, nI_T1, nI_T0, true_and, and_true, s_X12_in, rs_b_ok]
theorem s_X12_isNumber (d : Nat) (w : rs_H) (Q : rs_H → Option Value → Prop) (a : Int32) : rs_XM (d + 1) yX12_isNumber [.int a] w Q ↔ Q w (some (.int (rs_b (nI 0 ≤ a ∧ a ≤ nI 7)))) := by
  rw [em_X12_isNumber]
  simp only [K_X12_isNumber, lk_X12_isNumber, XI, Nat.reduceAdd, Nat.reduceEqDiff, not_false_eq_true, nI_T1, nI_T0, true_and, and_true, s_X12_in, rs_b_ok]
theorem s_X12_at (d : Nat) (w : rs_H) (Q : rs_H → Option Value → Prop) (i : Nat) : rs_XM d yX12_at [.int (nI i)] w Q ↔ Q w (some (.int (nI (240 + 14 * i)))) := by
  rw [em_X12_at]
  simp only [K_X12_at, lk_X12_at, XI, Nat.reduceAdd, Nat.reduceEqDiff, not_false_eq_true, nI_T1, nI_T0, true_and, and_true, nI_mulS, nI_addS]
theorem s_X12_itemAt (d : Nat) (w : rs_H) (Q : rs_H → Option Value → Prop) (r k : Nat) : rs_XM d yX12_itemAt [.int (nI r), .int (nI k)] w Q ↔ Q w (some (.int (nI (30 * r + 6 + 4 * k)))) := by
  rw [em_X12_itemAt]
  simp only [K_X12_itemAt, lk_X12_itemAt, XI, Nat.reduceAdd, Nat.reduceEqDiff, not_false_eq_true, nI_T1, nI_T0, true_and, and_true, nI_mulS, nI_addS]
section
variable (d : Nat) (P : Nat → Option rs_C) (n s : Nat) (I : Nat → Nat → Int32) (J : Nat → Nat → Int64) (R : Nat → Nat → Option Nat) (Q : rs_H → Option Value → Prop)
theorem s_X12_isThere {r : Nat} (hr : r < 8) : rs_XM d yX12_isThere [.ref 61, .int (nI r)] (sk_w P n s I J R) Q ↔ Q (sk_w P n s I J R) (some (.int (rs_b (I 62 (30 * r) = nI 1)))) := by
  rw [em_X12_isThere]
  simp (disch := omega) only [K_X12_isThere, lk_X12_isThere, XI, Nat.reduceAdd, Nat.reduceEqDiff, not_false_eq_true, nI_T1, nI_T0, true_and, and_true, WC, WV, WU, nI_mulS, nI_addS, nI_cl, rs_in_t]
  by_cases h : I 62 (30 * r) = nI 1
  · simp only [h, not_true_eq_false, if_false, rs_b_t]
  · simp only [h, not_false_eq_true, if_true, rs_b_f]
theorem s_X12_hasPlan : rs_XM d yX12_hasPlan [.ref 61] (sk_w P n s I J R) Q ↔ Q (sk_w P n s I J R) (some (.int (rs_b (0 ≤ I 62 445)))) := by
  rw [em_X12_hasPlan]
  simp (disch := omega) only [K_X12_hasPlan, lk_X12_hasPlan, XI, Nat.reduceAdd, Nat.reduceEqDiff, not_false_eq_true, nI_T1, nI_T0, true_and, and_true, WC, WV, WU, nI_mulS, nI_addS, nI_cl, rs_in_t]
  by_cases h : I 62 445 < 0
  · rw [if_pos h, rs_b_f (Int32.not_le.mpr h)]
  · rw [if_neg h, rs_b_t (Int32.not_lt.mp h)]
theorem s_X12_packs {i : Nat} (hi : i < 12) : rs_XM (d + 1) yX12_packs [.ref 61, .int (nI i)] (sk_w P n s I J R) Q ↔ Q (sk_w P n s I J R) (some (.int (I 62 (240 + 14 * i + 7)))) := by
  rw [em_X12_packs]
  simp (disch := omega) only [K_X12_packs, lk_X12_packs, XI, Nat.reduceAdd, Nat.reduceEqDiff, not_false_eq_true, nI_T1, nI_T0, true_and, and_true, WC, WV, WU, s_X12_at, nI_mulS, nI_addS, nI_cl, rs_in_t]
theorem s_X12_sizeOf {i k : Nat} (hi : i < 12) (hk : k < 3) : rs_XM (d + 1) yX12_sizeOf [.ref 61, .int (nI i), .int (nI k)] (sk_w P n s I J R) Q ↔ Q (sk_w P n s I J R) (some (.int (I 62 (240 + 14 * i + 8 + 2 * k)))) := by
  rw [em_X12_sizeOf]
  simp (disch := omega) only [K_X12_sizeOf, lk_X12_sizeOf, XI, Nat.reduceAdd, Nat.reduceEqDiff, not_false_eq_true, nI_T1, nI_T0, true_and, and_true, WC, WV, WU, s_X12_at, nI_mulS, nI_addS, nI_cl, rs_in_t]
theorem s_X12_priceOf {i k : Nat} (hi : i < 12) (hk : k < 3) : rs_XM (d + 1) yX12_priceOf [.ref 61, .int (nI i), .int (nI k)] (sk_w P n s I J R) Q ↔ Q (sk_w P n s I J R) (some (.int (I 62 (240 + 14 * i + 8 + 2 * k + 1)))) := by
  rw [em_X12_priceOf]
  simp (disch := omega) only [K_X12_priceOf, lk_X12_priceOf, XI, Nat.reduceAdd, Nat.reduceEqDiff, not_false_eq_true, nI_T1, nI_T0, true_and, and_true, WC, WV, WU, s_X12_at, nI_mulS, nI_addS, nI_cl, rs_in_t]
theorem s_X12_reason : rs_XM d yX12_reason [.ref 61] (sk_w P n s I J R) Q ↔ Q (sk_w P n s I J R) (some (.int (I 61 5))) := by
  rw [em_X12_reason]
  simp (disch := omega) only [K_X12_reason, lk_X12_reason, XI, Nat.reduceAdd, Nat.reduceEqDiff, not_false_eq_true, nI_T1, nI_T0, true_and, and_true, WC, WV, WU]
theorem s_X11_reason : rs_XM d yX11_reason [.ref 1] (sk_w P n s I J R) Q ↔ Q (sk_w P n s I J R) (some (.int (I 1 4))) := by
  rw [em_X11_reason]
  simp (disch := omega) only [K_X11_reason, lk_X11_reason, XI, Nat.reduceAdd, Nat.reduceEqDiff, not_false_eq_true, nI_T1, nI_T0, true_and, and_true, WC, WV, WU]
theorem s_X12_set (a b : Int64) : rs_XM d yX12_set [.ref 61, .long a, .long b] (sk_w P n s I J R) Q ↔ Q (sk_w P n s I (rs_u2 (rs_u2 J 61 6 a) 61 7 b) R) none := by
  rw [em_X12_set]
  simp (disch := omega) only [K_X12_set, lk_X12_set, XI, Nat.reduceAdd, Nat.reduceEqDiff, not_false_eq_true, nI_T1, nI_T0, true_and, and_true, WC, WV, WU]
theorem s_X11_keepReason (k : Nat) (hk : k < 7) : rs_XM d yX11_keepReason [.ref 1, .int (nI k)] (sk_w P n s I J R) Q ↔ Q (sk_w P n s (if k = 0 then I else rs_u2 I 1 4 (nI k)) J R) (some (.int (rs_b (k = 0)))) := by
  rw [em_X11_keepReason]
  by_cases h : k = 0
  · have h0 : nI k = 0 := (nI_eq0S (by omega)).mpr h
    rw [rs_b_t h, if_pos h]
    simp (disch := omega) only [K_X11_keepReason, lk_X11_keepReason, XI, Nat.reduceAdd, Nat.reduceEqDiff, not_false_eq_true, nI_T1, nI_T0, true_and, and_true, WC, WV, WU, h0, nI_11, or_true, not_true_eq_false, if_true, if_false]
  · have h0 : nI k ≠ 0 := fun z => h ((nI_eq0S (by omega)).mp z)
    rw [rs_b_f h, if_neg h]
    simp (disch := omega) only [K_X11_keepReason, lk_X11_keepReason, XI, Nat.reduceAdd, Nat.reduceEqDiff, not_false_eq_true, nI_T1, nI_T0, true_and, and_true, WC, WV, WU, h0, ne_eq, not_false_eq_true, if_true, if_false, true_or]
end
