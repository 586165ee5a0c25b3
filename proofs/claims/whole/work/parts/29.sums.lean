/-! the class's rows of fractions (printed by wip/whole/gensums.py) -/
theorem pkF_01 : lN 1 = pkF (0, 1) := rfl
/-- what an addition answers -/
def adO (q0 : Nat × Nat) (v : Option (Nat × Nat)) : Option (Nat × Nat) := oadd (some q0) v
theorem adO_ok {q0 : Nat × Nat} (h : isF q0) {v : Option (Nat × Nat)} (hv : okO v) : okO (adO q0 v) := by
  intro q e
  cases v with
  | none => cases e
  | some p => exact fr_isF (f_pos h.2.1 (hv p rfl).2.1) e
section
variable (P : Nat → Option rs_C) (n s : Nat) (I : Nat → Nat → Int32) (J : Nat → Nat → Int64) (R : Nat → Nat → Option Nat) (d : Nat) (Q : rs_H → Option Value → Prop)
theorem su_at_46 {i : Nat} (hi : i < 12) : rs_XM d yX9_at [.ref 46, .int (nI i)] (sk_w P n s I J R) Q ↔ Q (sk_w P n s I J R) (some (.long (J 47 i))) := by
  rw [em_X9_at]
  simp (disch := omega) only [K_X9_at, lk_X9_at, XI, Nat.reduceAdd, Nat.reduceEqDiff, not_false_eq_true, nI_T1, nI_T0, true_and, and_true, WC, WV, WU, nI_lt0S, nI_leS, nI_cl, rs_in_t, if_false]
  rw [if_neg (by omega)]
theorem su_put_46 {i : Nat} (hi : i < 12) (v : Int64) : rs_XM d yX9_put [.ref 46, .int (nI i), .long v] (sk_w P n s I J R) Q ↔ Q (sk_w P n s I (rs_u2 J 47 i v) R) none := by
  rw [em_X9_put]
  simp (disch := omega) only [K_X9_put, lk_X9_put, XI, Nat.reduceAdd, Nat.reduceEqDiff, not_false_eq_true, nI_T1, nI_T0, true_and, and_true, WC, WV, WU, nI_lt0S, nI_leS, nI_cl, rs_in_t, if_false]
  rw [if_neg (by omega)]
theorem su_add_46_s {i : Nat} (hi : i < 12) {q0 : Nat × Nat} (h0 : J 47 i = pkF q0) (hq : isF q0) {v : Option (Nat × Nat)} (hv : okO v) {q : Nat × Nat} (e : adO q0 v = some q) : rs_XM (d + 2) yX9_add [.ref 46, .int (nI i), .long (pkO v)] (sk_w P n s I J R) Q ↔ Q (sk_w P n s I (rs_u2 J 47 i (pkF q)) R) (some (.int (nI 0))) := by
  have ho := adO_ok hq hv
  rw [e] at ho
  unfold adO at e
  rw [em_X9_add]
  simp (disch := omega) only [K_X9_add, lk_X9_add, XI, Nat.reduceAdd, Nat.reduceEqDiff, not_false_eq_true, nI_T1, nI_T0, true_and, and_true, WC, WV, WU, su_at_46, h0]
  simp (disch := omega) only [← pkO_s, s_X0_sum _ _ _ (okO_s hq) hv, e, K_X9_add, lk_X9_add, XI, Nat.reduceAdd, Nat.reduceEqDiff, not_false_eq_true, nI_T1, nI_T0, true_and, and_true, WC, WV, WU, lg_cmp_ge, lg_cmp_lt, lN_0, pkO_nn _ ho, reduceCtorEq, if_true, su_put_46]
theorem su_add_46_n {i : Nat} (hi : i < 12) {q0 : Nat × Nat} (h0 : J 47 i = pkF q0) (hq : isF q0) {v : Option (Nat × Nat)} (hv : okO v) (e : adO q0 v = none) : rs_XM (d + 2) yX9_add [.ref 46, .int (nI i), .long (pkO v)] (sk_w P n s I J R) Q ↔ Q (sk_w P n s I J R) (some (.int (nI 5))) := by
  have ho := adO_ok hq hv
  rw [e] at ho
  unfold adO at e
  rw [em_X9_add]
  simp (disch := omega) only [K_X9_add, lk_X9_add, XI, Nat.reduceAdd, Nat.reduceEqDiff, not_false_eq_true, nI_T1, nI_T0, true_and, and_true, WC, WV, WU, su_at_46, h0]
  simp (disch := omega) only [← pkO_s, s_X0_sum _ _ _ (okO_s hq) hv, e, K_X9_add, lk_X9_add, XI, Nat.reduceAdd, Nat.reduceEqDiff, not_false_eq_true, nI_T1, nI_T0, true_and, and_true, WC, WV, WU, lg_cmp_ge, lg_cmp_lt, lN_0, pkO_nn _ ho, not_true_eq_false, if_false, su_put_46]
theorem su_clear_l_46 : ∀ (m k : Nat), k + m = 12 → rs_X d yX9_clear 24 [some (.ref 46), some (.int (nI 12))] [] (sk_w P n s I (cpU J 47 0 12 fun _ => pkF (0, 1)) R) Q →
    rs_X d yX9_clear 2 [some (.ref 46), some (.int (nI k))] [] (sk_w P n s I (cpU J 47 0 k fun _ => pkF (0, 1)) R) Q := by
  intro m
  induction m with
  | zero =>
    intro k hk h
    have : k = 12 := by omega
    subst this
    rw [g_X9_clear_2]
    simp (disch := omega) only [g_X9_clear_3, g_X9_clear_4, g_X9_clear_7, g_X9_clear_8, g_X9_clear_11, g_X9_clear_12, g_X9_clear_15, g_X9_clear_16, g_X9_clear_17, g_X9_clear_18, g_X9_clear_21, lk_X9_clear, XI, Nat.reduceAdd, Nat.reduceEqDiff, not_false_eq_true, nI_T1, nI_T0, true_and, and_true, WC, WV, WU, nI_leS, nI_addS, Nat.le_refl, if_true]
    exact h
  | succ m ih =>
    intro k hk h
    rw [g_X9_clear_2]
    simp (disch := omega) only [g_X9_clear_3, g_X9_clear_4, g_X9_clear_7, g_X9_clear_8, g_X9_clear_11, g_X9_clear_12, g_X9_clear_15, g_X9_clear_16, g_X9_clear_17, g_X9_clear_18, g_X9_clear_21, lk_X9_clear, XI, Nat.reduceAdd, Nat.reduceEqDiff, not_false_eq_true, nI_T1, nI_T0, true_and, and_true, WC, WV, WU, nI_leS, nI_addS, nI_cl, rs_in_t]
    rw [if_neg (by omega), cpU_s J 47 0 k (fun _ => pkF (0, 1)) (Nat.zero_le k) pkF_01]
    exact ih (k + 1) (by omega) h
theorem su_clear_46 : rs_XM d yX9_clear [.ref 46] (sk_w P n s I J R) Q ↔ Q (sk_w P n s I (cpU J 47 0 12 fun _ => pkF (0, 1)) R) none := by
  refine rs_XM_iff ?_ Q
  rw [em_X9_clear]
  simp (disch := omega) only [g_X9_clear_0, g_X9_clear_1, lk_X9_clear, XI, Nat.reduceAdd, Nat.reduceEqDiff, not_false_eq_true, nI_T1, nI_T0, true_and, and_true, WC, WV, WU]
  have e := su_clear_l_46 P n s I J R d
  have e2 := cpU_0 J 47 0 fun _ => pkF (0, 1)
  rw [← e2]
  refine e _ 12 0 (by omega) ?_
  simp (disch := omega) only [g_X9_clear_24, lk_X9_clear, XI, Nat.reduceAdd, Nat.reduceEqDiff, not_false_eq_true, nI_T1, nI_T0, true_and, and_true, WC, WV, WU]
  rw [e2]
theorem su_at_48 {i : Nat} (hi : i < 12) : rs_XM d yX9_at [.ref 48, .int (nI i)] (sk_w P n s I J R) Q ↔ Q (sk_w P n s I J R) (some (.long (J 49 i))) := by
  rw [em_X9_at]
  simp (disch := omega) only [K_X9_at, lk_X9_at, XI, Nat.reduceAdd, Nat.reduceEqDiff, not_false_eq_true, nI_T1, nI_T0, true_and, and_true, WC, WV, WU, nI_lt0S, nI_leS, nI_cl, rs_in_t, if_false]
  rw [if_neg (by omega)]
theorem su_put_48 {i : Nat} (hi : i < 12) (v : Int64) : rs_XM d yX9_put [.ref 48, .int (nI i), .long v] (sk_w P n s I J R) Q ↔ Q (sk_w P n s I (rs_u2 J 49 i v) R) none := by
  rw [em_X9_put]
  simp (disch := omega) only [K_X9_put, lk_X9_put, XI, Nat.reduceAdd, Nat.reduceEqDiff, not_false_eq_true, nI_T1, nI_T0, true_and, and_true, WC, WV, WU, nI_lt0S, nI_leS, nI_cl, rs_in_t, if_false]
  rw [if_neg (by omega)]
theorem su_add_48_s {i : Nat} (hi : i < 12) {q0 : Nat × Nat} (h0 : J 49 i = pkF q0) (hq : isF q0) {v : Option (Nat × Nat)} (hv : okO v) {q : Nat × Nat} (e : adO q0 v = some q) : rs_XM (d + 2) yX9_add [.ref 48, .int (nI i), .long (pkO v)] (sk_w P n s I J R) Q ↔ Q (sk_w P n s I (rs_u2 J 49 i (pkF q)) R) (some (.int (nI 0))) := by
  have ho := adO_ok hq hv
  rw [e] at ho
  unfold adO at e
  rw [em_X9_add]
  simp (disch := omega) only [K_X9_add, lk_X9_add, XI, Nat.reduceAdd, Nat.reduceEqDiff, not_false_eq_true, nI_T1, nI_T0, true_and, and_true, WC, WV, WU, su_at_48, h0]
  simp (disch := omega) only [← pkO_s, s_X0_sum _ _ _ (okO_s hq) hv, e, K_X9_add, lk_X9_add, XI, Nat.reduceAdd, Nat.reduceEqDiff, not_false_eq_true, nI_T1, nI_T0, true_and, and_true, WC, WV, WU, lg_cmp_ge, lg_cmp_lt, lN_0, pkO_nn _ ho, reduceCtorEq, if_true, su_put_48]
theorem su_add_48_n {i : Nat} (hi : i < 12) {q0 : Nat × Nat} (h0 : J 49 i = pkF q0) (hq : isF q0) {v : Option (Nat × Nat)} (hv : okO v) (e : adO q0 v = none) : rs_XM (d + 2) yX9_add [.ref 48, .int (nI i), .long (pkO v)] (sk_w P n s I J R) Q ↔ Q (sk_w P n s I J R) (some (.int (nI 5))) := by
  have ho := adO_ok hq hv
  rw [e] at ho
  unfold adO at e
  rw [em_X9_add]
  simp (disch := omega) only [K_X9_add, lk_X9_add, XI, Nat.reduceAdd, Nat.reduceEqDiff, not_false_eq_true, nI_T1, nI_T0, true_and, and_true, WC, WV, WU, su_at_48, h0]
  simp (disch := omega) only [← pkO_s, s_X0_sum _ _ _ (okO_s hq) hv, e, K_X9_add, lk_X9_add, XI, Nat.reduceAdd, Nat.reduceEqDiff, not_false_eq_true, nI_T1, nI_T0, true_and, and_true, WC, WV, WU, lg_cmp_ge, lg_cmp_lt, lN_0, pkO_nn _ ho, not_true_eq_false, if_false, su_put_48]
theorem su_clear_l_48 : ∀ (m k : Nat), k + m = 12 → rs_X d yX9_clear 24 [some (.ref 48), some (.int (nI 12))] [] (sk_w P n s I (cpU J 49 0 12 fun _ => pkF (0, 1)) R) Q →
    rs_X d yX9_clear 2 [some (.ref 48), some (.int (nI k))] [] (sk_w P n s I (cpU J 49 0 k fun _ => pkF (0, 1)) R) Q := by
  intro m
  induction m with
  | zero =>
    intro k hk h
    have : k = 12 := by omega
    subst this
    rw [g_X9_clear_2]
    simp (disch := omega) only [g_X9_clear_3, g_X9_clear_4, g_X9_clear_7, g_X9_clear_8, g_X9_clear_11, g_X9_clear_12, g_X9_clear_15, g_X9_clear_16, g_X9_clear_17, g_X9_clear_18, g_X9_clear_21, lk_X9_clear, XI, Nat.reduceAdd, Nat.reduceEqDiff, not_false_eq_true, nI_T1, nI_T0, true_and, and_true, WC, WV, WU, nI_leS, nI_addS, Nat.le_refl, if_true]
    exact h
  | succ m ih =>
    intro k hk h
    rw [g_X9_clear_2]
    simp (disch := omega) only [g_X9_clear_3, g_X9_clear_4, g_X9_clear_7, g_X9_clear_8, g_X9_clear_11, g_X9_clear_12, g_X9_clear_15, g_X9_clear_16, g_X9_clear_17, g_X9_clear_18, g_X9_clear_21, lk_X9_clear, XI, Nat.reduceAdd, Nat.reduceEqDiff, not_false_eq_true, nI_T1, nI_T0, true_and, and_true, WC, WV, WU, nI_leS, nI_addS, nI_cl, rs_in_t]
    rw [if_neg (by omega), cpU_s J 49 0 k (fun _ => pkF (0, 1)) (Nat.zero_le k) pkF_01]
    exact ih (k + 1) (by omega) h
theorem su_clear_48 : rs_XM d yX9_clear [.ref 48] (sk_w P n s I J R) Q ↔ Q (sk_w P n s I (cpU J 49 0 12 fun _ => pkF (0, 1)) R) none := by
  refine rs_XM_iff ?_ Q
  rw [em_X9_clear]
  simp (disch := omega) only [g_X9_clear_0, g_X9_clear_1, lk_X9_clear, XI, Nat.reduceAdd, Nat.reduceEqDiff, not_false_eq_true, nI_T1, nI_T0, true_and, and_true, WC, WV, WU]
  have e := su_clear_l_48 P n s I J R d
  have e2 := cpU_0 J 49 0 fun _ => pkF (0, 1)
  rw [← e2]
  refine e _ 12 0 (by omega) ?_
  simp (disch := omega) only [g_X9_clear_24, lk_X9_clear, XI, Nat.reduceAdd, Nat.reduceEqDiff, not_false_eq_true, nI_T1, nI_T0, true_and, and_true, WC, WV, WU]
  rw [e2]
theorem su_at_50 {i : Nat} (hi : i < 12) : rs_XM d yX9_at [.ref 50, .int (nI i)] (sk_w P n s I J R) Q ↔ Q (sk_w P n s I J R) (some (.long (J 51 i))) := by
  rw [em_X9_at]
  simp (disch := omega) only [K_X9_at, lk_X9_at, XI, Nat.reduceAdd, Nat.reduceEqDiff, not_false_eq_true, nI_T1, nI_T0, true_and, and_true, WC, WV, WU, nI_lt0S, nI_leS, nI_cl, rs_in_t, if_false]
  rw [if_neg (by omega)]
theorem su_put_50 {i : Nat} (hi : i < 12) (v : Int64) : rs_XM d yX9_put [.ref 50, .int (nI i), .long v] (sk_w P n s I J R) Q ↔ Q (sk_w P n s I (rs_u2 J 51 i v) R) none := by
  rw [em_X9_put]
  simp (disch := omega) only [K_X9_put, lk_X9_put, XI, Nat.reduceAdd, Nat.reduceEqDiff, not_false_eq_true, nI_T1, nI_T0, true_and, and_true, WC, WV, WU, nI_lt0S, nI_leS, nI_cl, rs_in_t, if_false]
  rw [if_neg (by omega)]
theorem su_add_50_s {i : Nat} (hi : i < 12) {q0 : Nat × Nat} (h0 : J 51 i = pkF q0) (hq : isF q0) {v : Option (Nat × Nat)} (hv : okO v) {q : Nat × Nat} (e : adO q0 v = some q) : rs_XM (d + 2) yX9_add [.ref 50, .int (nI i), .long (pkO v)] (sk_w P n s I J R) Q ↔ Q (sk_w P n s I (rs_u2 J 51 i (pkF q)) R) (some (.int (nI 0))) := by
  have ho := adO_ok hq hv
  rw [e] at ho
  unfold adO at e
  rw [em_X9_add]
  simp (disch := omega) only [K_X9_add, lk_X9_add, XI, Nat.reduceAdd, Nat.reduceEqDiff, not_false_eq_true, nI_T1, nI_T0, true_and, and_true, WC, WV, WU, su_at_50, h0]
  simp (disch := omega) only [← pkO_s, s_X0_sum _ _ _ (okO_s hq) hv, e, K_X9_add, lk_X9_add, XI, Nat.reduceAdd, Nat.reduceEqDiff, not_false_eq_true, nI_T1, nI_T0, true_and, and_true, WC, WV, WU, lg_cmp_ge, lg_cmp_lt, lN_0, pkO_nn _ ho, reduceCtorEq, if_true, su_put_50]
theorem su_add_50_n {i : Nat} (hi : i < 12) {q0 : Nat × Nat} (h0 : J 51 i = pkF q0) (hq : isF q0) {v : Option (Nat × Nat)} (hv : okO v) (e : adO q0 v = none) : rs_XM (d + 2) yX9_add [.ref 50, .int (nI i), .long (pkO v)] (sk_w P n s I J R) Q ↔ Q (sk_w P n s I J R) (some (.int (nI 5))) := by
  have ho := adO_ok hq hv
  rw [e] at ho
  unfold adO at e
  rw [em_X9_add]
  simp (disch := omega) only [K_X9_add, lk_X9_add, XI, Nat.reduceAdd, Nat.reduceEqDiff, not_false_eq_true, nI_T1, nI_T0, true_and, and_true, WC, WV, WU, su_at_50, h0]
  simp (disch := omega) only [← pkO_s, s_X0_sum _ _ _ (okO_s hq) hv, e, K_X9_add, lk_X9_add, XI, Nat.reduceAdd, Nat.reduceEqDiff, not_false_eq_true, nI_T1, nI_T0, true_and, and_true, WC, WV, WU, lg_cmp_ge, lg_cmp_lt, lN_0, pkO_nn _ ho, not_true_eq_false, if_false, su_put_50]
theorem su_clear_l_50 : ∀ (m k : Nat), k + m = 12 → rs_X d yX9_clear 24 [some (.ref 50), some (.int (nI 12))] [] (sk_w P n s I (cpU J 51 0 12 fun _ => pkF (0, 1)) R) Q →
    rs_X d yX9_clear 2 [some (.ref 50), some (.int (nI k))] [] (sk_w P n s I (cpU J 51 0 k fun _ => pkF (0, 1)) R) Q := by
  intro m
  induction m with
  | zero =>
    intro k hk h
    have : k = 12 := by omega
    subst this
    rw [g_X9_clear_2]
    simp (disch := omega) only [g_X9_clear_3, g_X9_clear_4, g_X9_clear_7, g_X9_clear_8, g_X9_clear_11, g_X9_clear_12, g_X9_clear_15, g_X9_clear_16, g_X9_clear_17, g_X9_clear_18, g_X9_clear_21, lk_X9_clear, XI, Nat.reduceAdd, Nat.reduceEqDiff, not_false_eq_true, nI_T1, nI_T0, true_and, and_true, WC, WV, WU, nI_leS, nI_addS, Nat.le_refl, if_true]
    exact h
  | succ m ih =>
    intro k hk h
    rw [g_X9_clear_2]
    simp (disch := omega) only [g_X9_clear_3, g_X9_clear_4, g_X9_clear_7, g_X9_clear_8, g_X9_clear_11, g_X9_clear_12, g_X9_clear_15, g_X9_clear_16, g_X9_clear_17, g_X9_clear_18, g_X9_clear_21, lk_X9_clear, XI, Nat.reduceAdd, Nat.reduceEqDiff, not_false_eq_true, nI_T1, nI_T0, true_and, and_true, WC, WV, WU, nI_leS, nI_addS, nI_cl, rs_in_t]
    rw [if_neg (by omega), cpU_s J 51 0 k (fun _ => pkF (0, 1)) (Nat.zero_le k) pkF_01]
    exact ih (k + 1) (by omega) h
theorem su_clear_50 : rs_XM d yX9_clear [.ref 50] (sk_w P n s I J R) Q ↔ Q (sk_w P n s I (cpU J 51 0 12 fun _ => pkF (0, 1)) R) none := by
  refine rs_XM_iff ?_ Q
  rw [em_X9_clear]
  simp (disch := omega) only [g_X9_clear_0, g_X9_clear_1, lk_X9_clear, XI, Nat.reduceAdd, Nat.reduceEqDiff, not_false_eq_true, nI_T1, nI_T0, true_and, and_true, WC, WV, WU]
  have e := su_clear_l_50 P n s I J R d
  have e2 := cpU_0 J 51 0 fun _ => pkF (0, 1)
  rw [← e2]
  refine e _ 12 0 (by omega) ?_
  simp (disch := omega) only [g_X9_clear_24, lk_X9_clear, XI, Nat.reduceAdd, Nat.reduceEqDiff, not_false_eq_true, nI_T1, nI_T0, true_and, and_true, WC, WV, WU]
  rw [e2]
theorem su_at_52 {i : Nat} (hi : i < 6) : rs_XM d yX9_at [.ref 52, .int (nI i)] (sk_w P n s I J R) Q ↔ Q (sk_w P n s I J R) (some (.long (J 53 i))) := by
  rw [em_X9_at]
  simp (disch := omega) only [K_X9_at, lk_X9_at, XI, Nat.reduceAdd, Nat.reduceEqDiff, not_false_eq_true, nI_T1, nI_T0, true_and, and_true, WC, WV, WU, nI_lt0S, nI_leS, nI_cl, rs_in_t, if_false]
  rw [if_neg (by omega)]
theorem su_put_52 {i : Nat} (hi : i < 6) (v : Int64) : rs_XM d yX9_put [.ref 52, .int (nI i), .long v] (sk_w P n s I J R) Q ↔ Q (sk_w P n s I (rs_u2 J 53 i v) R) none := by
  rw [em_X9_put]
  simp (disch := omega) only [K_X9_put, lk_X9_put, XI, Nat.reduceAdd, Nat.reduceEqDiff, not_false_eq_true, nI_T1, nI_T0, true_and, and_true, WC, WV, WU, nI_lt0S, nI_leS, nI_cl, rs_in_t, if_false]
  rw [if_neg (by omega)]
theorem su_add_52_s {i : Nat} (hi : i < 6) {q0 : Nat × Nat} (h0 : J 53 i = pkF q0) (hq : isF q0) {v : Option (Nat × Nat)} (hv : okO v) {q : Nat × Nat} (e : adO q0 v = some q) : rs_XM (d + 2) yX9_add [.ref 52, .int (nI i), .long (pkO v)] (sk_w P n s I J R) Q ↔ Q (sk_w P n s I (rs_u2 J 53 i (pkF q)) R) (some (.int (nI 0))) := by
  have ho := adO_ok hq hv
  rw [e] at ho
  unfold adO at e
  rw [em_X9_add]
  simp (disch := omega) only [K_X9_add, lk_X9_add, XI, Nat.reduceAdd, Nat.reduceEqDiff, not_false_eq_true, nI_T1, nI_T0, true_and, and_true, WC, WV, WU, su_at_52, h0]
  simp (disch := omega) only [← pkO_s, s_X0_sum _ _ _ (okO_s hq) hv, e, K_X9_add, lk_X9_add, XI, Nat.reduceAdd, Nat.reduceEqDiff, not_false_eq_true, nI_T1, nI_T0, true_and, and_true, WC, WV, WU, lg_cmp_ge, lg_cmp_lt, lN_0, pkO_nn _ ho, reduceCtorEq, if_true, su_put_52]
theorem su_add_52_n {i : Nat} (hi : i < 6) {q0 : Nat × Nat} (h0 : J 53 i = pkF q0) (hq : isF q0) {v : Option (Nat × Nat)} (hv : okO v) (e : adO q0 v = none) : rs_XM (d + 2) yX9_add [.ref 52, .int (nI i), .long (pkO v)] (sk_w P n s I J R) Q ↔ Q (sk_w P n s I J R) (some (.int (nI 5))) := by
  have ho := adO_ok hq hv
  rw [e] at ho
  unfold adO at e
  rw [em_X9_add]
  simp (disch := omega) only [K_X9_add, lk_X9_add, XI, Nat.reduceAdd, Nat.reduceEqDiff, not_false_eq_true, nI_T1, nI_T0, true_and, and_true, WC, WV, WU, su_at_52, h0]
  simp (disch := omega) only [← pkO_s, s_X0_sum _ _ _ (okO_s hq) hv, e, K_X9_add, lk_X9_add, XI, Nat.reduceAdd, Nat.reduceEqDiff, not_false_eq_true, nI_T1, nI_T0, true_and, and_true, WC, WV, WU, lg_cmp_ge, lg_cmp_lt, lN_0, pkO_nn _ ho, not_true_eq_false, if_false, su_put_52]
theorem su_clear_l_52 : ∀ (m k : Nat), k + m = 6 → rs_X d yX9_clear 24 [some (.ref 52), some (.int (nI 6))] [] (sk_w P n s I (cpU J 53 0 6 fun _ => pkF (0, 1)) R) Q →
    rs_X d yX9_clear 2 [some (.ref 52), some (.int (nI k))] [] (sk_w P n s I (cpU J 53 0 k fun _ => pkF (0, 1)) R) Q := by
  intro m
  induction m with
  | zero =>
    intro k hk h
    have : k = 6 := by omega
    subst this
    rw [g_X9_clear_2]
    simp (disch := omega) only [g_X9_clear_3, g_X9_clear_4, g_X9_clear_7, g_X9_clear_8, g_X9_clear_11, g_X9_clear_12, g_X9_clear_15, g_X9_clear_16, g_X9_clear_17, g_X9_clear_18, g_X9_clear_21, lk_X9_clear, XI, Nat.reduceAdd, Nat.reduceEqDiff, not_false_eq_true, nI_T1, nI_T0, true_and, and_true, WC, WV, WU, nI_leS, nI_addS, Nat.le_refl, if_true]
    exact h
  | succ m ih =>
    intro k hk h
    rw [g_X9_clear_2]
    simp (disch := omega) only [g_X9_clear_3, g_X9_clear_4, g_X9_clear_7, g_X9_clear_8, g_X9_clear_11, g_X9_clear_12, g_X9_clear_15, g_X9_clear_16, g_X9_clear_17, g_X9_clear_18, g_X9_clear_21, lk_X9_clear, XI, Nat.reduceAdd, Nat.reduceEqDiff, not_false_eq_true, nI_T1, nI_T0, true_and, and_true, WC, WV, WU, nI_leS, nI_addS, nI_cl, rs_in_t]
    rw [if_neg (by omega), cpU_s J 53 0 k (fun _ => pkF (0, 1)) (Nat.zero_le k) pkF_01]
    exact ih (k + 1) (by omega) h
theorem su_clear_52 : rs_XM d yX9_clear [.ref 52] (sk_w P n s I J R) Q ↔ Q (sk_w P n s I (cpU J 53 0 6 fun _ => pkF (0, 1)) R) none := by
  refine rs_XM_iff ?_ Q
  rw [em_X9_clear]
  simp (disch := omega) only [g_X9_clear_0, g_X9_clear_1, lk_X9_clear, XI, Nat.reduceAdd, Nat.reduceEqDiff, not_false_eq_true, nI_T1, nI_T0, true_and, and_true, WC, WV, WU]
  have e := su_clear_l_52 P n s I J R d
  have e2 := cpU_0 J 53 0 fun _ => pkF (0, 1)
  rw [← e2]
  refine e _ 6 0 (by omega) ?_
  simp (disch := omega) only [g_X9_clear_24, lk_X9_clear, XI, Nat.reduceAdd, Nat.reduceEqDiff, not_false_eq_true, nI_T1, nI_T0, true_and, and_true, WC, WV, WU]
  rw [e2]
theorem su_at_54 {i : Nat} (hi : i < 8) : rs_XM d yX9_at [.ref 54, .int (nI i)] (sk_w P n s I J R) Q ↔ Q (sk_w P n s I J R) (some (.long (J 55 i))) := by
  rw [em_X9_at]
  simp (disch := omega) only [K_X9_at, lk_X9_at, XI, Nat.reduceAdd, Nat.reduceEqDiff, not_false_eq_true, nI_T1, nI_T0, true_and, and_true, WC, WV, WU, nI_lt0S, nI_leS, nI_cl, rs_in_t, if_false]
  rw [if_neg (by omega)]
theorem su_put_54 {i : Nat} (hi : i < 8) (v : Int64) : rs_XM d yX9_put [.ref 54, .int (nI i), .long v] (sk_w P n s I J R) Q ↔ Q (sk_w P n s I (rs_u2 J 55 i v) R) none := by
  rw [em_X9_put]
  simp (disch := omega) only [K_X9_put, lk_X9_put, XI, Nat.reduceAdd, Nat.reduceEqDiff, not_false_eq_true, nI_T1, nI_T0, true_and, and_true, WC, WV, WU, nI_lt0S, nI_leS, nI_cl, rs_in_t, if_false]
  rw [if_neg (by omega)]
theorem su_add_54_s {i : Nat} (hi : i < 8) {q0 : Nat × Nat} (h0 : J 55 i = pkF q0) (hq : isF q0) {v : Option (Nat × Nat)} (hv : okO v) {q : Nat × Nat} (e : adO q0 v = some q) : rs_XM (d + 2) yX9_add [.ref 54, .int (nI i), .long (pkO v)] (sk_w P n s I J R) Q ↔ Q (sk_w P n s I (rs_u2 J 55 i (pkF q)) R) (some (.int (nI 0))) := by
  have ho := adO_ok hq hv
  rw [e] at ho
  unfold adO at e
  rw [em_X9_add]
  simp (disch := omega) only [K_X9_add, lk_X9_add, XI, Nat.reduceAdd, Nat.reduceEqDiff, not_false_eq_true, nI_T1, nI_T0, true_and, and_true, WC, WV, WU, su_at_54, h0]
  simp (disch := omega) only [← pkO_s, s_X0_sum _ _ _ (okO_s hq) hv, e, K_X9_add, lk_X9_add, XI, Nat.reduceAdd, Nat.reduceEqDiff, not_false_eq_true, nI_T1, nI_T0, true_and, and_true, WC, WV, WU, lg_cmp_ge, lg_cmp_lt, lN_0, pkO_nn _ ho, reduceCtorEq, if_true, su_put_54]
theorem su_add_54_n {i : Nat} (hi : i < 8) {q0 : Nat × Nat} (h0 : J 55 i = pkF q0) (hq : isF q0) {v : Option (Nat × Nat)} (hv : okO v) (e : adO q0 v = none) : rs_XM (d + 2) yX9_add [.ref 54, .int (nI i), .long (pkO v)] (sk_w P n s I J R) Q ↔ Q (sk_w P n s I J R) (some (.int (nI 5))) := by
  have ho := adO_ok hq hv
  rw [e] at ho
  unfold adO at e
  rw [em_X9_add]
  simp (disch := omega) only [K_X9_add, lk_X9_add, XI, Nat.reduceAdd, Nat.reduceEqDiff, not_false_eq_true, nI_T1, nI_T0, true_and, and_true, WC, WV, WU, su_at_54, h0]
  simp (disch := omega) only [← pkO_s, s_X0_sum _ _ _ (okO_s hq) hv, e, K_X9_add, lk_X9_add, XI, Nat.reduceAdd, Nat.reduceEqDiff, not_false_eq_true, nI_T1, nI_T0, true_and, and_true, WC, WV, WU, lg_cmp_ge, lg_cmp_lt, lN_0, pkO_nn _ ho, not_true_eq_false, if_false, su_put_54]
theorem su_clear_l_54 : ∀ (m k : Nat), k + m = 8 → rs_X d yX9_clear 24 [some (.ref 54), some (.int (nI 8))] [] (sk_w P n s I (cpU J 55 0 8 fun _ => pkF (0, 1)) R) Q →
    rs_X d yX9_clear 2 [some (.ref 54), some (.int (nI k))] [] (sk_w P n s I (cpU J 55 0 k fun _ => pkF (0, 1)) R) Q := by
  intro m
  induction m with
  | zero =>
    intro k hk h
    have : k = 8 := by omega
    subst this
    rw [g_X9_clear_2]
    simp (disch := omega) only [g_X9_clear_3, g_X9_clear_4, g_X9_clear_7, g_X9_clear_8, g_X9_clear_11, g_X9_clear_12, g_X9_clear_15, g_X9_clear_16, g_X9_clear_17, g_X9_clear_18, g_X9_clear_21, lk_X9_clear, XI, Nat.reduceAdd, Nat.reduceEqDiff, not_false_eq_true, nI_T1, nI_T0, true_and, and_true, WC, WV, WU, nI_leS, nI_addS, Nat.le_refl, if_true]
    exact h
  | succ m ih =>
    intro k hk h
    rw [g_X9_clear_2]
    simp (disch := omega) only [g_X9_clear_3, g_X9_clear_4, g_X9_clear_7, g_X9_clear_8, g_X9_clear_11, g_X9_clear_12, g_X9_clear_15, g_X9_clear_16, g_X9_clear_17, g_X9_clear_18, g_X9_clear_21, lk_X9_clear, XI, Nat.reduceAdd, Nat.reduceEqDiff, not_false_eq_true, nI_T1, nI_T0, true_and, and_true, WC, WV, WU, nI_leS, nI_addS, nI_cl, rs_in_t]
    rw [if_neg (by omega), cpU_s J 55 0 k (fun _ => pkF (0, 1)) (Nat.zero_le k) pkF_01]
    exact ih (k + 1) (by omega) h
theorem su_clear_54 : rs_XM d yX9_clear [.ref 54] (sk_w P n s I J R) Q ↔ Q (sk_w P n s I (cpU J 55 0 8 fun _ => pkF (0, 1)) R) none := by
  refine rs_XM_iff ?_ Q
  rw [em_X9_clear]
  simp (disch := omega) only [g_X9_clear_0, g_X9_clear_1, lk_X9_clear, XI, Nat.reduceAdd, Nat.reduceEqDiff, not_false_eq_true, nI_T1, nI_T0, true_and, and_true, WC, WV, WU]
  have e := su_clear_l_54 P n s I J R d
  have e2 := cpU_0 J 55 0 fun _ => pkF (0, 1)
  rw [← e2]
  refine e _ 8 0 (by omega) ?_
  simp (disch := omega) only [g_X9_clear_24, lk_X9_clear, XI, Nat.reduceAdd, Nat.reduceEqDiff, not_false_eq_true, nI_T1, nI_T0, true_and, and_true, WC, WV, WU]
  rw [e2]
end
