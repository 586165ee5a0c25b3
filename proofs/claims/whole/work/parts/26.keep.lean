/-! rows copied from one place to another; what the reference keeps -/
/-- a stretch of one row laid anew -/
def cpU {α : Type} (F : Nat → Nat → α) (q lo hi : Nat) (f : Nat → α) : Nat → Nat → α := fun a j => if a = q ∧ lo ≤ j ∧ j < hi then f j else F a j
theorem cpU_0 {α : Type} (F : Nat → Nat → α) (q lo : Nat) (f : Nat → α) : cpU F q lo lo f = F := by
  funext a j
  unfold cpU
  rw [if_neg (by omega)]
theorem cpU_s {α : Type} (F : Nat → Nat → α) (q lo hi : Nat) (f : Nat → α) (h : lo ≤ hi) {v : α} (hv : v = f hi) : rs_u2 (cpU F q lo hi f) q hi v = cpU F q lo (hi + 1) f := by
  subst hv
  funext a j
  unfold cpU rs_u2
  dsimp only
  by_cases h1 : a = q
  · rw [if_pos h1]
    by_cases h2 : j = hi
    · rw [if_pos h2, if_pos (by omega), h2]
    · rw [if_neg h2]
      by_cases h3 : lo ≤ j ∧ j < hi
      · rw [if_pos ⟨h1, h3⟩, if_pos (by omega)]
      · rw [if_neg (fun z => h3 z.2), if_neg (by omega)]
  · rw [if_neg h1, if_neg (fun z => h1 z.1), if_neg (fun z => h1 z.1)]
theorem cpU_ne {α : Type} (F : Nat → Nat → α) (q lo hi : Nat) (f : Nat → α) {a : Nat} (j : Nat) (h : ¬ a = q) : cpU F q lo hi f a j = F a j := if_neg (fun z => h z.1)
theorem cpU_in {α : Type} (F : Nat → Nat → α) (q lo hi : Nat) (f : Nat → α) {j : Nat} (h1 : lo ≤ j) (h2 : j < hi) : cpU F q lo hi f q j = f j := if_pos ⟨rfl, h1, h2⟩
theorem cpU_out {α : Type} (F : Nat → Nat → α) (q lo hi : Nat) (f : Nat → α) {a j : Nat} (h : j < lo ∨ hi ≤ j) : cpU F q lo hi f a j = F a j := if_neg (fun z => by omega)
theorem rs_u2_ne {α : Type} (F : Nat → Nat → α) {q j a i : Nat} (v : α) (h : ¬ (a = q ∧ i = j)) : rs_u2 F q j v a i = F a i := by
  unfold rs_u2
  by_cases h1 : a = q
  · rw [if_pos h1, if_neg (fun z => h ⟨h1, z⟩)]
  · rw [if_neg h1]
theorem rs_u2_eq {α : Type} (F : Nat → Nat → α) (q j : Nat) (v : α) : rs_u2 F q j v q j = v := by
  unfold rs_u2
  rw [if_pos rfl, if_pos rfl]
section
variable (d : Nat) (P : Nat → Option rs_C) (n s : Nat) (I : Nat → Nat → Int32) (J : Nat → Nat → Int64) (R : Nat → Nat → Option Nat) (Q : rs_H → Option Value → Prop)
theorem X12_keep_l1 : ∀ (m k : Nat), k + m = 3136 → rs_X d yX12_keep 40 [some (.ref 61), some (.int (nI 3136))] [] (sk_w P n s (cpU I 64 0 3136 fun j => I 64 (j + 448)) J R) Q →
    rs_X d yX12_keep 11 [some (.ref 61), some (.int (nI k))] [] (sk_w P n s (cpU I 64 0 k fun j => I 64 (j + 448)) J R) Q := by
  intro m
  induction m with
  | zero =>
    intro k hk h
    have : k = 3136 := by omega
    subst this
    rw [g_X12_keep_11]
    simp (disch := omega) only [g_X12_keep_12, g_X12_keep_15, g_X12_keep_18, g_X12_keep_19, g_X12_keep_22, g_X12_keep_23, g_X12_keep_24, g_X12_keep_27, g_X12_keep_28, g_X12_keep_31, g_X12_keep_32, g_X12_keep_33, g_X12_keep_34, g_X12_keep_37, lk_X12_keep, XI, Nat.reduceAdd, Nat.reduceEqDiff, not_false_eq_true, nI_T1, nI_T0, true_and, and_true, WC, WV, WU, nI_leS, nI_addS, Nat.le_refl, if_true]
    exact h
  | succ m ih =>
    intro k hk h
    rw [g_X12_keep_11]
    simp (disch := omega) only [g_X12_keep_12, g_X12_keep_15, g_X12_keep_18, g_X12_keep_19, g_X12_keep_22, g_X12_keep_23, g_X12_keep_24, g_X12_keep_27, g_X12_keep_28, g_X12_keep_31, g_X12_keep_32, g_X12_keep_33, g_X12_keep_34, g_X12_keep_37, lk_X12_keep, XI, Nat.reduceAdd, Nat.reduceEqDiff, not_false_eq_true, nI_T1, nI_T0, true_and, and_true, WC, WV, WU, nI_leS, nI_addS, nI_cl, rs_in_t]
    rw [if_neg (by omega), cpU_s I 64 0 k (fun j => I 64 (j + 448)) (Nat.zero_le k) (cpU_out _ _ _ _ _ (by omega))]
    exact ih (k + 1) (by omega) h
theorem X12_keep_l2 {c : Nat} (hc : c < 8) (h4 : I 61 4 = nI c) : ∀ (m k : Nat), k + m = 448 → rs_X d yX12_keep 86 [some (.ref 61), some (.int (nI 448))] [] (sk_w P n s (cpU I 64 (448 * c) (448 * c + 448) fun j => I 62 (j - 448 * c)) J R) Q →
    rs_X d yX12_keep 52 [some (.ref 61), some (.int (nI k))] [] (sk_w P n s (cpU I 64 (448 * c) (448 * c + k) fun j => I 62 (j - 448 * c)) J R) Q := by
  intro m
  induction m with
  | zero =>
    intro k hk h
    have : k = 448 := by omega
    subst this
    rw [g_X12_keep_52]
    simp (disch := omega) only [g_X12_keep_53, g_X12_keep_56, g_X12_keep_59, g_X12_keep_60, g_X12_keep_63, g_X12_keep_66, g_X12_keep_67, g_X12_keep_70, g_X12_keep_71, g_X12_keep_72, g_X12_keep_73, g_X12_keep_74, g_X12_keep_77, g_X12_keep_78, g_X12_keep_79, g_X12_keep_80, g_X12_keep_83, lk_X12_keep, XI, Nat.reduceAdd, Nat.reduceEqDiff, not_false_eq_true, nI_T1, nI_T0, true_and, and_true, WC, WV, WU, nI_leS, nI_addS, Nat.le_refl, if_true]
    exact h
  | succ m ih =>
    intro k hk h
    rw [g_X12_keep_52]
    simp (disch := omega) only [g_X12_keep_53, g_X12_keep_56, g_X12_keep_59, g_X12_keep_60, g_X12_keep_63, g_X12_keep_66, g_X12_keep_67, g_X12_keep_70, g_X12_keep_71, g_X12_keep_72, g_X12_keep_73, g_X12_keep_74, g_X12_keep_77, g_X12_keep_78, g_X12_keep_79, g_X12_keep_80, g_X12_keep_83, lk_X12_keep, XI, Nat.reduceAdd, Nat.reduceEqDiff, not_false_eq_true, nI_T1, nI_T0, true_and, and_true, WC, WV, WU, nI_leS, nI_addS, nI_mulS, nI_cl, rs_in_t, cpU_ne, h4]
    rw [if_neg (by omega), cpU_s I 64 (448 * c) (448 * c + k) (fun j => I 62 (j - 448 * c)) (Nat.le_add_right _ _) (by rw [show 448 * c + k - 448 * c = k by omega])]
    exact ih (k + 1) (by omega) h
/-- what is kept: of nine states the oldest makes room -/
def kpI (I : Nat → Nat → Int32) (c : Nat) : Nat → Nat → Int32 := if c = 8 then rs_u2 (cpU (rs_u2 (cpU I 64 0 3136 fun j => I 64 (j + 448)) 61 4 (nI 7)) 64 3136 3584 fun j => I 62 (j - 3136)) 61 4 (nI 8) else rs_u2 (cpU I 64 (448 * c) (448 * c + 448) fun j => I 62 (j - 448 * c)) 61 4 (nI (c + 1))
theorem s_X12_keep {c : Nat} (hc : c ≤ 8) (h4 : I 61 4 = nI c) : rs_XM d yX12_keep [.ref 61] (sk_w P n s I J R) Q ↔ Q (sk_w P n s (kpI I c) J R) none := by
  refine rs_XM_iff ?_ Q
  rw [em_X12_keep]
  unfold kpI
  by_cases h8 : c = 8
  · subst h8
    rw [if_pos rfl]
    simp (disch := omega) only [g_X12_keep_0, g_X12_keep_1, g_X12_keep_4, g_X12_keep_6, g_X12_keep_9, g_X12_keep_10, lk_X12_keep, XI, Nat.reduceAdd, Nat.reduceEqDiff, not_false_eq_true, nI_T1, nI_T0, true_and, and_true, WC, WV, WU, h4, not_true_eq_false, if_false]
    have e := X12_keep_l1 d P n s I J R
    have e2 := cpU_0 I 64 0 fun j => I 64 (j + 448)
    rw [← e2]
    refine e _ 3136 0 (by omega) ?_
    rw [e2]
    simp (disch := omega) only [g_X12_keep_40, g_X12_keep_41, g_X12_keep_42, g_X12_keep_45, g_X12_keep_46, g_X12_keep_47, g_X12_keep_50, g_X12_keep_51, lk_X12_keep, XI, Nat.reduceAdd, Nat.reduceEqDiff, not_false_eq_true, nI_T1, nI_T0, true_and, and_true, WC, WV, WU, cpU_ne, h4, nI_subS, Nat.reduceSub]
    generalize hG : rs_u2 (cpU I 64 0 3136 fun j => I 64 (j + 448)) 61 4 (nI 7) = G
    have g4 : G 61 4 = nI 7 := by rw [← hG]; exact rs_u2_eq _ _ _ _
    have g62 : ∀ j, G 62 j = I 62 j := by
      intro j
      rw [← hG, rs_u2_ne _ _ (by omega), cpU_ne _ _ _ _ _ _ (by omega)]
    have f := X12_keep_l2 d P n s G J R
    have f2 := cpU_0 G 64 (448 * 7) fun j => G 62 (j - 448 * 7)
    rw [← f2]
    refine f _ (c := 7) (by omega) g4 448 0 (by omega) ?_
    simp (disch := omega) only [g_X12_keep_86, g_X12_keep_87, g_X12_keep_88, g_X12_keep_91, g_X12_keep_92, g_X12_keep_93, g_X12_keep_96, lk_X12_keep, XI, Nat.reduceAdd, Nat.reduceEqDiff, not_false_eq_true, nI_T1, nI_T0, true_and, and_true, WC, WV, WU, cpU_ne, g4, nI_addS]
    rw [f2]
    simp only [g62, Nat.reduceMul, Nat.reduceAdd]
  · rw [if_neg h8]
    have hne : ¬ nI c = nI 8 := fun z => h8 ((nI_eqS (by omega) (by omega)).mp z)
    simp (disch := omega) only [g_X12_keep_0, g_X12_keep_1, g_X12_keep_4, g_X12_keep_6, g_X12_keep_9, g_X12_keep_10, lk_X12_keep, g_X12_keep_50, g_X12_keep_51, lk_X12_keep, XI, Nat.reduceAdd, Nat.reduceEqDiff, not_false_eq_true, nI_T1, nI_T0, true_and, and_true, WC, WV, WU, h4, hne, not_false_eq_true, if_true]
    have f := X12_keep_l2 d P n s I J R
    have f2 := cpU_0 I 64 (448 * c) fun j => I 62 (j - 448 * c)
    rw [← f2]
    refine f _ (c := c) (by omega) h4 448 0 (by omega) ?_
    simp (disch := omega) only [g_X12_keep_86, g_X12_keep_87, g_X12_keep_88, g_X12_keep_91, g_X12_keep_92, g_X12_keep_93, g_X12_keep_96, lk_X12_keep, XI, Nat.reduceAdd, Nat.reduceEqDiff, not_false_eq_true, nI_T1, nI_T0, true_and, and_true, WC, WV, WU, cpU_ne, h4, nI_addS]
    rw [f2]
end
