/-! the recipes that there are, as bits; bits counted -/
def rsB (D : Dt) : Nat → Nat
  | 0 => 0
  | k + 1 => if D.rc k = none then rsB D k else rsB D k ||| 2 ^ k
theorem rsB_s (D : Dt) (k : Nat) : rsB D (k + 1) = if D.rc k = none then rsB D k else rsB D k ||| 2 ^ k := rfl
theorem rsB_le (D : Dt) : ∀ k, k ≤ 8 → rsB D k < 256
  | 0, _ => show 0 < 256 by decide
  | k + 1, h => by
    have ih := rsB_le D k (by omega)
    have e1 : 2 ^ k < 2 ^ 8 := Nat.pow_lt_pow_right (by decide) (by omega)
    rw [rsB_s]
    split
    · exact ih
    · exact Nat.or_lt_two_pow (n := 8) ih e1
def us32 (a : Int32) (k : Nat) : Int32 := (a.toUInt32 >>> ((nI k).toUInt32 &&& Int32.toUInt32 31)).toInt32
def bc1 (x : Int32) : Int32 := x - (us32 x 1 &&& nI 1431655765)
def bc2 (x : Int32) : Int32 := (x &&& nI 858993459) + (us32 x 2 &&& nI 858993459)
def bc3 (x : Int32) : Int32 := (x + us32 x 4) &&& nI 252645135
def bcE (x : Int32) : Int32 := ((fun x => x + us32 x 16) ((fun x => x + us32 x 8) (bc3 (bc2 (bc1 x))))) &&& nI 63
theorem bc_256 : ∀ v, v < 256 → bcE (nI v) = nI (pc8 v) := by decide +kernel
theorem ones_s : ∀ v, v < 256 → ¬ v = 0 → (v &&& (v - 1)) < v ∧ pc8 (v &&& (v - 1)) + 1 = pc8 v := by decide +kernel
theorem pc8_0 : pc8 0 = 0 := by decide +kernel
theorem s_bitCount (d : Nat) (w : rs_H) (Q : rs_H → Option Value → Prop) {v : Nat} (hv : v < 256) : rs_XM d yJ6_bitCount [.int (nI v)] w Q ↔ Q w (some (.int (nI (pc8 v)))) := by
  rw [em_J6_bitCount, ← bc_256 v hv]
  simp only [K_J6_bitCount, lk_J6_bitCount, XI, Nat.reduceAdd, Nat.reduceEqDiff, not_false_eq_true, nI_T1, nI_T0, true_and, and_true]
  exact Iff.rfl
theorem X12_ones_l (d : Nat) (w : rs_H) (Q : rs_H → Option Value → Prop) (x : Int32) : ∀ (b v c : Nat), v ≤ b → v < 256 → (rs_X d yX12_ones 4 [some (.int x), some (.int (nI c)), some (.int (nI v))] [] w Q ↔ Q w (some (.int (nI (c + pc8 v))))) := by
  intro b
  induction b with
  | zero =>
    intro v c hv h
    have : v = 0 := by omega
    subst this
    rw [g_X12_ones_4]
    simp (disch := omega) only [g_X12_ones_5, g_X12_ones_8, g_X12_ones_11, g_X12_ones_12, g_X12_ones_13, g_X12_ones_14, g_X12_ones_15, g_X12_ones_16, g_X12_ones_17, g_X12_ones_20, g_X12_ones_21, lk_X12_ones, XI, Nat.reduceAdd, Nat.reduceEqDiff, not_false_eq_true, nI_T1, nI_T0, true_and, and_true, nI_00, if_true, pc8_0, Nat.add_zero]
  | succ b ih =>
    intro v c hv h
    rw [g_X12_ones_4]
    by_cases h0 : v = 0
    · subst h0
      simp (disch := omega) only [g_X12_ones_5, g_X12_ones_8, g_X12_ones_11, g_X12_ones_12, g_X12_ones_13, g_X12_ones_14, g_X12_ones_15, g_X12_ones_16, g_X12_ones_17, g_X12_ones_20, g_X12_ones_21, lk_X12_ones, XI, Nat.reduceAdd, Nat.reduceEqDiff, not_false_eq_true, nI_T1, nI_T0, true_and, and_true, nI_00, if_true, pc8_0, Nat.add_zero]
    · obtain ⟨h1, h2⟩ := ones_s v h h0
      simp (disch := omega) only [g_X12_ones_5, g_X12_ones_8, g_X12_ones_11, g_X12_ones_12, g_X12_ones_13, g_X12_ones_14, g_X12_ones_15, g_X12_ones_16, g_X12_ones_17, g_X12_ones_20, g_X12_ones_21, lk_X12_ones, XI, Nat.reduceAdd, Nat.reduceEqDiff, not_false_eq_true, nI_T1, nI_T0, true_and, and_true, nI_eq0S, h0, if_false, nI_subS, nI_addS, bt_and]
      rw [ih _ (c + 1) (by omega) (by omega), show c + 1 + pc8 (v &&& (v - 1)) = c + pc8 v by omega]
theorem s_X12_ones (d : Nat) (w : rs_H) (Q : rs_H → Option Value → Prop) {v : Nat} (hv : v < 256) : rs_XM d yX12_ones [.int (nI v)] w Q ↔ Q w (some (.int (nI (pc8 v)))) := by
  rw [em_X12_ones]
  simp only [g_X12_ones_0, g_X12_ones_1, g_X12_ones_2, g_X12_ones_3, lk_X12_ones, XI, Nat.reduceAdd, Nat.reduceEqDiff, not_false_eq_true, nI_T1, nI_T0, true_and, and_true]
  rw [X12_ones_l d w Q _ v v 0 (Nat.le_refl v) hv, Nat.zero_add]
section
variable (P : Nat → Option rs_C) (n s : Nat) (I : Nat → Nat → Int32) (J : Nat → Nat → Int64) (R : Nat → Nat → Option Nat) (d : Nat) (Q : rs_H → Option Value → Prop)
theorem X7_rset_l {b q : Nat} {D : Dt} (hq : cSt P b q D) : ∀ (m k : Nat), k + m = 8 → (rs_X (d + 1) yX7_recipeSet 4 [some (.ref q), some (.int (nI (rsB D k))), some (.int (nI k))] [] (sk_w P n s I J R) Q ↔ Q (sk_w P n s I J R) (some (.int (nI (rsB D 8))))) := by
  intro m
  induction m with
  | zero =>
    intro k hk
    have : k = 8 := by omega
    subst this
    rw [g_X7_recipeSet_4]
    simp (disch := omega) only [g_X7_recipeSet_5, g_X7_recipeSet_7, g_X7_recipeSet_10, g_X7_recipeSet_11, g_X7_recipeSet_12, g_X7_recipeSet_15, g_X7_recipeSet_18, g_X7_recipeSet_19, g_X7_recipeSet_20, g_X7_recipeSet_21, g_X7_recipeSet_22, g_X7_recipeSet_23, g_X7_recipeSet_24, g_X7_recipeSet_27, g_X7_recipeSet_30, g_X7_recipeSet_31, lk_X7_recipeSet, XI, Nat.reduceAdd, Nat.reduceEqDiff, not_false_eq_true, nI_T1, nI_T0, true_and, and_true, WC, WV, WU, nI_leS, Nat.le_refl, if_true]
  | succ m ih =>
    intro k hk
    have hb := rsB_le D k (by omega)
    have e1 : 2 ^ k < 2 ^ 8 := Nat.pow_lt_pow_right (by decide) (by omega)
    have h2 := ih (k + 1) (by omega)
    rw [rsB_s] at h2
    rw [g_X7_recipeSet_4]
    cases hz : D.rc k with
    | none =>
      rw [hz, if_pos rfl] at h2
      simp (disch := omega) only [g_X7_recipeSet_5, g_X7_recipeSet_7, g_X7_recipeSet_10, g_X7_recipeSet_11, g_X7_recipeSet_12, g_X7_recipeSet_15, g_X7_recipeSet_18, g_X7_recipeSet_19, g_X7_recipeSet_20, g_X7_recipeSet_21, g_X7_recipeSet_22, g_X7_recipeSet_23, g_X7_recipeSet_24, g_X7_recipeSet_27, lk_X7_recipeSet, XI, Nat.reduceAdd, Nat.reduceEqDiff, not_false_eq_true, nI_T1, nI_T0, true_and, and_true, WC, WV, WU, nI_leS, k_St P n s I J R hq, g_recipeAt_n n s I J R hq (show k < 8 by omega) hz, nI_addS]
      rw [if_neg (by omega)]
      exact h2
    | some Z =>
      rw [hz, if_neg (by intro z; cases z)] at h2
      obtain ⟨y, hy, cy⟩ := g_recipeAt_s hq (show k < 8 by omega) hz
      simp (disch := omega) only [g_X7_recipeSet_5, g_X7_recipeSet_7, g_X7_recipeSet_10, g_X7_recipeSet_11, g_X7_recipeSet_12, g_X7_recipeSet_15, g_X7_recipeSet_18, g_X7_recipeSet_19, g_X7_recipeSet_20, g_X7_recipeSet_21, g_X7_recipeSet_22, g_X7_recipeSet_23, g_X7_recipeSet_24, g_X7_recipeSet_27, lk_X7_recipeSet, XI, Nat.reduceAdd, Nat.reduceEqDiff, not_false_eq_true, nI_T1, nI_T0, true_and, and_true, WC, WV, WU, nI_leS, k_St P n s I J R hq, cy, nI_addS, bt_shl, Nat.one_mul, bt_or]
      rw [if_neg (by omega)]
      exact h2
theorem s_recipeSet {b q : Nat} {D : Dt} (hq : cSt P b q D) : rs_XM (d + 1) yX7_recipeSet [.ref q] (sk_w P n s I J R) Q ↔ Q (sk_w P n s I J R) (some (.int (nI (rsB D 8)))) := by
  rw [em_X7_recipeSet]
  simp (disch := omega) only [g_X7_recipeSet_0, g_X7_recipeSet_1, g_X7_recipeSet_2, g_X7_recipeSet_3, lk_X7_recipeSet, XI, Nat.reduceAdd, Nat.reduceEqDiff, not_false_eq_true, nI_T1, nI_T0, true_and, and_true, WC, WV, WU]
  exact X7_rset_l P n s I J R d Q hq 8 0 rfl
theorem X12_rset_l {D : Dt} (hM : mDt (I 62) D) : ∀ (m k : Nat), k + m = 8 → (rs_X (d + 1) yX12_recipes 4 [some (.ref 61), some (.int (nI (rsB D k))), some (.int (nI k))] [] (sk_w P n s I J R) Q ↔ Q (sk_w P n s I J R) (some (.int (nI (rsB D 8))))) := by
  intro m
  induction m with
  | zero =>
    intro k hk
    have : k = 8 := by omega
    subst this
    rw [g_X12_recipes_4]
    simp (disch := omega) only [g_X12_recipes_5, g_X12_recipes_7, g_X12_recipes_10, g_X12_recipes_11, g_X12_recipes_12, g_X12_recipes_13, g_X12_recipes_16, g_X12_recipes_19, g_X12_recipes_20, g_X12_recipes_21, g_X12_recipes_22, g_X12_recipes_25, g_X12_recipes_26, g_X12_recipes_27, g_X12_recipes_28, g_X12_recipes_31, g_X12_recipes_34, g_X12_recipes_35, lk_X12_recipes, XI, Nat.reduceAdd, Nat.reduceEqDiff, not_false_eq_true, nI_T1, nI_T0, true_and, and_true, WC, WV, WU, nI_leS, Nat.le_refl, if_true]
  | succ m ih =>
    intro k hk
    have hb := rsB_le D k (by omega)
    have e1 : 2 ^ k < 2 ^ 8 := Nat.pow_lt_pow_right (by decide) (by omega)
    have h2 := ih (k + 1) (by omega)
    rw [rsB_s] at h2
    rw [g_X12_recipes_4]
    by_cases hz : D.rc k = none
    · rw [if_pos hz] at h2
      have e : ¬ I 62 (30 * k) = nI 1 := fun z => ((s_rowIsThere hM (by omega)).mp z) hz
      simp (disch := omega) only [g_X12_recipes_5, g_X12_recipes_7, g_X12_recipes_10, g_X12_recipes_11, g_X12_recipes_12, g_X12_recipes_13, g_X12_recipes_16, g_X12_recipes_19, g_X12_recipes_20, g_X12_recipes_21, g_X12_recipes_22, g_X12_recipes_25, g_X12_recipes_26, g_X12_recipes_27, g_X12_recipes_28, g_X12_recipes_31, lk_X12_recipes, XI, Nat.reduceAdd, Nat.reduceEqDiff, not_false_eq_true, nI_T1, nI_T0, true_and, and_true, WC, WV, WU, rs_b_0, rs_b_ok2, true_or, or_true, Classical.not_not, not_true_eq_false, if_true, if_false, reduceCtorEq, nI_leS, s_X12_isThere, e, nI_addS, nI_or0]
      rw [if_neg (by omega)]
      exact h2
    · rw [if_neg hz] at h2
      have e : I 62 (30 * k) = nI 1 := (s_rowIsThere hM (by omega)).mpr hz
      simp (disch := omega) only [g_X12_recipes_5, g_X12_recipes_7, g_X12_recipes_10, g_X12_recipes_11, g_X12_recipes_12, g_X12_recipes_13, g_X12_recipes_16, g_X12_recipes_19, g_X12_recipes_20, g_X12_recipes_21, g_X12_recipes_22, g_X12_recipes_25, g_X12_recipes_26, g_X12_recipes_27, g_X12_recipes_28, g_X12_recipes_31, lk_X12_recipes, XI, Nat.reduceAdd, Nat.reduceEqDiff, not_false_eq_true, nI_T1, nI_T0, true_and, and_true, WC, WV, WU, rs_b_0, rs_b_ok2, true_or, or_true, Classical.not_not, not_true_eq_false, if_true, if_false, reduceCtorEq, nI_leS, s_X12_isThere, e, nI_addS, bt_shl, Nat.one_mul, bt_or]
      rw [if_neg (by omega)]
      exact h2
theorem s_X12_recipes {D : Dt} (hM : mDt (I 62) D) : rs_XM (d + 1) yX12_recipes [.ref 61] (sk_w P n s I J R) Q ↔ Q (sk_w P n s I J R) (some (.int (nI (rsB D 8)))) := by
  rw [em_X12_recipes]
  simp (disch := omega) only [g_X12_recipes_0, g_X12_recipes_1, g_X12_recipes_2, g_X12_recipes_3, lk_X12_recipes, XI, Nat.reduceAdd, Nat.reduceEqDiff, not_false_eq_true, nI_T1, nI_T0, true_and, and_true, WC, WV, WU]
  exact X12_rset_l P n s I J R d Q hM 8 0 rfl
theorem X12_image_l (f : Nat → Int32) (hf : ∀ j, j < 448 → f j = I 62 j) : ∀ (m k : Nat), k + m = 448 → rs_X d yX12_image 27 [some (.ref 61), some (.int (nI 448))] [] (sk_w P n s (cpU I 63 0 448 f) J R) Q →
    rs_X d yX12_image 2 [some (.ref 61), some (.int (nI k))] [] (sk_w P n s (cpU I 63 0 k f) J R) Q := by
  intro m
  induction m with
  | zero =>
    intro k hk h
    have : k = 448 := by omega
    subst this
    rw [g_X12_image_2]
    simp (disch := omega) only [g_X12_image_3, g_X12_image_6, g_X12_image_9, g_X12_image_10, g_X12_image_13, g_X12_image_14, g_X12_image_15, g_X12_image_18, g_X12_image_19, g_X12_image_20, g_X12_image_21, g_X12_image_24, lk_X12_image, XI, Nat.reduceAdd, Nat.reduceEqDiff, not_false_eq_true, nI_T1, nI_T0, true_and, and_true, WC, WV, WU, nI_leS, Nat.le_refl, if_true]
    exact h
  | succ m ih =>
    intro k hk h
    rw [g_X12_image_2]
    simp (disch := omega) only [g_X12_image_3, g_X12_image_6, g_X12_image_9, g_X12_image_10, g_X12_image_13, g_X12_image_14, g_X12_image_15, g_X12_image_18, g_X12_image_19, g_X12_image_20, g_X12_image_21, g_X12_image_24, lk_X12_image, XI, Nat.reduceAdd, Nat.reduceEqDiff, not_false_eq_true, nI_T1, nI_T0, true_and, and_true, WC, WV, WU, nI_leS, nI_addS, nI_cl, rs_in_t]
    rw [if_neg (by omega), cpU_s I 63 0 k f (Nat.zero_le k) (by rw [cpU_ne _ _ _ _ _ _ (by decide)]; exact (hf k (by omega)).symm)]
    exact ih (k + 1) (by omega) h
theorem X12_undo_l (f : Nat → Int32) (hf : ∀ j, j < 448 → f j = I 63 j) : ∀ (m k : Nat), k + m = 448 → rs_X d yX12_undo 37 [some (.ref 61), some (.int (nI 448))] [] (sk_w P n s (cpU I 62 0 448 f) J R) Q →
    rs_X d yX12_undo 12 [some (.ref 61), some (.int (nI k))] [] (sk_w P n s (cpU I 62 0 k f) J R) Q := by
  intro m
  induction m with
  | zero =>
    intro k hk h
    have : k = 448 := by omega
    subst this
    rw [g_X12_undo_12]
    simp (disch := omega) only [g_X12_undo_13, g_X12_undo_16, g_X12_undo_19, g_X12_undo_20, g_X12_undo_23, g_X12_undo_24, g_X12_undo_25, g_X12_undo_28, g_X12_undo_29, g_X12_undo_30, g_X12_undo_31, g_X12_undo_34, lk_X12_undo, XI, Nat.reduceAdd, Nat.reduceEqDiff, not_false_eq_true, nI_T1, nI_T0, true_and, and_true, WC, WV, WU, nI_leS, Nat.le_refl, if_true]
    exact h
  | succ m ih =>
    intro k hk h
    rw [g_X12_undo_12]
    simp (disch := omega) only [g_X12_undo_13, g_X12_undo_16, g_X12_undo_19, g_X12_undo_20, g_X12_undo_23, g_X12_undo_24, g_X12_undo_25, g_X12_undo_28, g_X12_undo_29, g_X12_undo_30, g_X12_undo_31, g_X12_undo_34, lk_X12_undo, XI, Nat.reduceAdd, Nat.reduceEqDiff, not_false_eq_true, nI_T1, nI_T0, true_and, and_true, WC, WV, WU, nI_leS, nI_addS, nI_cl, rs_in_t]
    rw [if_neg (by omega), cpU_s I 62 0 k f (Nat.zero_le k) (by rw [cpU_ne _ _ _ _ _ _ (by decide)]; exact (hf k (by omega)).symm)]
    exact ih (k + 1) (by omega) h
theorem X12_back_l {c : Nat} (hc : c < 8) (h4 : I 61 4 = nI c) : ∀ (m k : Nat), k + m = 448 → rs_X d yX12_back 56 [some (.ref 61), some (.int (nI 448))] [] (sk_w P n s (cpU I 62 0 448 fun j => I 64 (448 * c + j)) J R) Q →
    rs_X d yX12_back 22 [some (.ref 61), some (.int (nI k))] [] (sk_w P n s (cpU I 62 0 k fun j => I 64 (448 * c + j)) J R) Q := by
  intro m
  induction m with
  | zero =>
    intro k hk h
    have : k = 448 := by omega
    subst this
    rw [g_X12_back_22]
    simp (disch := omega) only [g_X12_back_23, g_X12_back_26, g_X12_back_29, g_X12_back_30, g_X12_back_33, g_X12_back_34, g_X12_back_35, g_X12_back_38, g_X12_back_41, g_X12_back_42, g_X12_back_45, g_X12_back_46, g_X12_back_47, g_X12_back_48, g_X12_back_49, g_X12_back_50, g_X12_back_53, lk_X12_back, XI, Nat.reduceAdd, Nat.reduceEqDiff, not_false_eq_true, nI_T1, nI_T0, true_and, and_true, WC, WV, WU, nI_leS, Nat.le_refl, if_true]
    exact h
  | succ m ih =>
    intro k hk h
    rw [g_X12_back_22]
    simp (disch := omega) only [g_X12_back_23, g_X12_back_26, g_X12_back_29, g_X12_back_30, g_X12_back_33, g_X12_back_34, g_X12_back_35, g_X12_back_38, g_X12_back_41, g_X12_back_42, g_X12_back_45, g_X12_back_46, g_X12_back_47, g_X12_back_48, g_X12_back_49, g_X12_back_50, g_X12_back_53, lk_X12_back, XI, Nat.reduceAdd, Nat.reduceEqDiff, not_false_eq_true, nI_T1, nI_T0, true_and, and_true, WC, WV, WU, nI_leS, nI_addS, nI_mulS, nI_cl, rs_in_t, cpU_ne, h4]
    rw [if_neg (by omega), cpU_s I 62 0 k (fun j => I 64 (448 * c + j)) (Nat.zero_le k) rfl]
    exact ih (k + 1) (by omega) h
end
section
variable {D : Dt} {Ds : Option Dt} {L : List Dt} {tp : List Nat} {rea : Int32}
theorem RI_p {I I' : Nat → Nat → Int32} {D' : Dt} {Ds' : Option Dt} {L' : List Dt} (h : RI I D Ds L tp rea) (h62 : mDt (I' 62) D') (hs : rSnap I' Ds') (h4 : I' 61 4 = nI L'.length) (hL : ∀ (k : Nat) (X : Dt), L'[k]? = some X → mDt (fun j => I' 64 (448 * k + j)) X) (h65 : ∀ j, I' 65 j = I 65 j) (h61 : ∀ j, j = 5 ∨ j = 9 ∨ j = 32 ∨ j = 33 ∨ j = 34 → I' 61 j = I 61 j) : RI I' D' Ds' L' tp rea := by
  obtain ⟨a1, a2, a3, a4, a5, a6, a7, a8⟩ := h
  exact ⟨h62, hs, h4, hL, by rw [h61 5 (by omega)]; exact a5, by rw [h61 9 (by omega)]; exact a6, fun k v e => by rw [h65]; exact a7 k v e, by rw [h61 32 (by omega), h61 33 (by omega), h61 34 (by omega)]; exact a8⟩
theorem b_image (hS : SOk D Ds L tp) : BC yX11_image yX12_image [] D Ds L tp rea := by
  have hb := rsB_le D 8 (Nat.le_refl 8)
  refine ⟨D, some D, L, tp, rea, .int (nI (pc8 (rsB D 8))), ⟨hS.1, fun X e => by cases e; exact hS.1, hS.2.2⟩, fun d P n s I J R Q h hQ => ?_, fun d P n s I J R Q g8 h hQ => ?_, Or.inl ⟨_, rfl⟩⟩
  · obtain ⟨c1, ⟨q, hR, hq⟩, c3, c4, c5, c6, c7, c8⟩ := h
    rw [em_X11_image]
    have hR2 : rs_u2 R 1 1 (some q) 1 0 = some q := by rw [rs_u2_ne _ _ (by omega)]; exact hR
    simp (disch := omega) only [K_X11_image, lk_X11_image, XI, Nat.reduceAdd, Nat.reduceEqDiff, not_false_eq_true, nI_T1, nI_T0, true_and, and_true, WC, WV, WU, hR, hR2, va_rf, k_St P n s I J _ hq, s_recipeSet P n s I J _ _ _ hq, s_bitCount _ _ _ hb]
    refine hQ P n s I J _ ⟨c1, ⟨q, hR2, hq⟩, ⟨q, rs_u2_eq _ _ _ _, hq⟩, c4, ?_, c6, c7, c8⟩ (fC_r I) (fC_r J) (by omega) (by omega)
    intro k X hk
    rw [rs_u2_ne _ _ (by omega)]
    exact c5 k X hk
  · rw [em_X12_image]
    simp (disch := omega) only [g_X12_image_0, g_X12_image_1, lk_X12_image, XI, Nat.reduceAdd, Nat.reduceEqDiff, not_false_eq_true, nI_T1, nI_T0, true_and, and_true, WC, WV, WU]
    have hl := X12_image_l P n s I J R (d + 60) Q (fun j => I 62 j) (fun j _ => rfl) 448 0 rfl
    rw [cpU_0] at hl
    refine hl ?_
    have hM : mDt (rs_u2 (cpU I 63 0 448 fun j => I 62 j) 61 2 (nI 1) 62) D := by
      rw [show rs_u2 (cpU I 63 0 448 fun j => I 62 j) 61 2 (nI 1) 62 = I 62 from funext fun j => by rw [rs_u2_ne _ _ (by omega), cpU_ne _ _ _ _ _ _ (by decide)]]
      exact h.1
    simp (disch := omega) only [g_X12_image_27, g_X12_image_28, g_X12_image_29, g_X12_image_32, g_X12_image_33, g_X12_image_36, g_X12_image_39, lk_X12_image, XI, Nat.reduceAdd, Nat.reduceEqDiff, not_false_eq_true, nI_T1, nI_T0, true_and, and_true, WC, WV, WU, nI_T1, s_X12_recipes P n s _ J R _ _ hM, s_X12_ones _ _ _ hb]
    refine hQ _ J (RI_p h hM ⟨?_, ?_⟩ ?_ ?_ ?_ ?_) (fR_u (fR_cp (fR_r I) (by decide)) (by decide)) (fR_r J)
    · rw [rs_u2_eq]
    · refine mDt_c hS.1 (fun j hj => ?_) h.1
      rw [rs_u2_ne _ _ (by omega), cpU_in _ _ _ _ _ (Nat.zero_le j) hj]
    · rw [rs_u2_ne _ _ (by omega), cpU_ne _ _ _ _ _ _ (by decide)]
      exact h.2.2.1
    · intro k X hk
      rw [show (fun j => rs_u2 (cpU I 63 0 448 fun j => I 62 j) 61 2 (nI 1) 64 (448 * k + j)) = fun j => I 64 (448 * k + j) from funext fun j => by rw [rs_u2_ne _ _ (by omega), cpU_ne _ _ _ _ _ _ (by decide)]]
      exact h.2.2.2.1 k X hk
    · intro j
      rw [rs_u2_ne _ _ (by omega), cpU_ne _ _ _ _ _ _ (by decide)]
    · intro j hj
      rw [rs_u2_ne _ _ (by omega), cpU_ne _ _ _ _ _ _ (by decide)]
theorem b_undo (hS : SOk D Ds L tp) : BC yX11_undo yX12_undo [] D Ds L tp rea := by
  cases hz : Ds with
  | none =>
    subst hz
    refine BC_same hS (.int (-3)) (Or.inl ⟨_, rfl⟩) (fun d P n s I J R Q h hQ => ?_) (fun d P n s I J R Q h hQ => ?_)
    · have e : R 1 1 = none := h.2.2.1
      rw [em_X11_undo]
      simp (disch := omega) only [g_X11_undo_0, g_X11_undo_1, g_X11_undo_4, g_X11_undo_7, g_X11_undo_9, lk_X11_undo, XI, Nat.reduceAdd, Nat.reduceEqDiff, not_false_eq_true, nI_T1, nI_T0, true_and, and_true, WC, WV, WU, e, va_rf]
      exact hQ
    · have e : I 61 2 = nI 0 := h.2.1
      rw [em_X12_undo]
      simp (disch := omega) only [g_X12_undo_0, g_X12_undo_1, g_X12_undo_4, g_X12_undo_7, g_X12_undo_9, lk_X12_undo, XI, Nat.reduceAdd, Nat.reduceEqDiff, not_false_eq_true, nI_T1, nI_T0, true_and, and_true, WC, WV, WU, e, nI_00, not_true_eq_false, if_false]
      exact hQ
  | some X =>
    subst hz
    have hX := hS.2.1 X rfl
    have hb := rsB_le X 8 (Nat.le_refl 8)
    refine ⟨X, some X, [], tp, rea, .int (nI (pc8 (rsB X 8))), ⟨hX, hS.2.1, Nat.zero_le _, fun k Y e => (by cases e), hS.2.2.2.2⟩, fun d P n s I J R Q h hQ => ?_, fun d P n s I J R Q g8 h hQ => ?_, Or.inl ⟨_, rfl⟩⟩
    · obtain ⟨c1, c2, ⟨q, hR, hq⟩, c4, c5, c6, c7, c8⟩ := h
      rw [em_X11_undo]
      have hR2 : rs_u2 R 1 0 (some q) 1 0 = some q := rs_u2_eq _ _ _ _
      simp (disch := omega) only [K_X11_undo, lk_X11_undo, XI, Nat.reduceAdd, Nat.reduceEqDiff, not_false_eq_true, nI_T1, nI_T0, true_and, and_true, WC, WV, WU, hR, hR2, va_rf, k_St P n s _ J _ hq, s_recipeSet P n s _ J _ _ _ hq, s_bitCount _ _ _ hb]
      refine hQ P n s _ J _ ⟨c1, ⟨q, hR2, hq⟩, ⟨q, by rw [rs_u2_ne _ _ (by omega)]; exact hR, hq⟩, rs_u2_eq _ _ _ _, fun k Y e => (by cases e), ?_, ?_, ?_⟩ (fC_u (fC_r I) (by decide)) (fC_r J) (by omega) (by omega)
      · rw [rs_u2_ne _ _ (by omega)]; exact c6
      · rw [rs_u2_ne _ _ (by omega)]; exact c7
      · intro k v e
        rw [rs_u2_ne _ _ (by omega)]; exact c8 k v e
    · obtain ⟨e, hX63⟩ : I 61 2 = nI 1 ∧ mDt (I 63) X := h.2.1
      rw [em_X12_undo]
      simp (disch := omega) only [g_X12_undo_0, g_X12_undo_1, g_X12_undo_4, g_X12_undo_7, g_X12_undo_9, g_X12_undo_10, g_X12_undo_11, lk_X12_undo, XI, Nat.reduceAdd, Nat.reduceEqDiff, not_false_eq_true, nI_T1, nI_T0, true_and, and_true, WC, WV, WU, e, show (nI 1 = 0) ↔ False from ⟨fun z => absurd z (by decide), fun z => z.elim⟩, not_false_eq_true, if_true]
      have hl := X12_undo_l P n s I J R (d + 60) Q (fun j => I 63 j) (fun j _ => rfl) 448 0 rfl
      rw [cpU_0] at hl
      refine hl ?_
      have hM : mDt (rs_u2 (cpU I 62 0 448 fun j => I 63 j) 61 4 (nI 0) 62) X := by
        refine mDt_c hX (fun j hj => ?_) hX63
        rw [rs_u2_ne _ _ (by omega), cpU_in _ _ _ _ _ (Nat.zero_le j) hj]
      simp (disch := omega) only [g_X12_undo_37, g_X12_undo_38, g_X12_undo_39, g_X12_undo_42, g_X12_undo_43, g_X12_undo_46, g_X12_undo_49, lk_X12_undo, XI, Nat.reduceAdd, Nat.reduceEqDiff, not_false_eq_true, nI_T1, nI_T0, true_and, and_true, WC, WV, WU, s_X12_recipes P n s _ J R _ _ hM, s_X12_ones _ _ _ hb]
      refine hQ _ J (RI_p h hM ⟨?_, ?_⟩ ?_ ?_ ?_ ?_) (fR_u (fR_cp (fR_r I) (by decide)) (by decide)) (fR_r J)
      · rw [rs_u2_ne _ _ (by omega), cpU_ne _ _ _ _ _ _ (by decide)]
        exact e
      · rw [show rs_u2 (cpU I 62 0 448 fun j => I 63 j) 61 4 (nI 0) 63 = I 63 from funext fun j => by rw [rs_u2_ne _ _ (by omega), cpU_ne _ _ _ _ _ _ (by decide)]]
        exact hX63
      · rw [rs_u2_eq]
        rfl
      · intro k Y e
        cases e
      · intro j
        rw [rs_u2_ne _ _ (by omega), cpU_ne _ _ _ _ _ _ (by decide)]
      · intro j hj
        rw [rs_u2_ne _ _ (by omega), cpU_ne _ _ _ _ _ _ (by decide)]
theorem b_back (hS : SOk D Ds L tp) : BC yX11_back yX12_back [] D Ds L tp rea := by
  have hL := hS.2.2.1
  by_cases h0 : L.length = 0
  · refine BC_same hS (.int (-3)) (Or.inl ⟨_, rfl⟩) (fun d P n s I J R Q h hQ => ?_) (fun d P n s I J R Q h hQ => ?_)
    · have e : I 1 3 = nI 0 := by rw [h.2.2.2.1, h0]
      rw [em_X11_back]
      simp (disch := omega) only [g_X11_back_0, g_X11_back_1, g_X11_back_4, g_X11_back_5, g_X11_back_6, g_X11_back_7, g_X11_back_8, g_X11_back_11, g_X11_back_12, g_X11_back_13, g_X11_back_16, g_X11_back_17, g_X11_back_20, g_X11_back_21, g_X11_back_24, g_X11_back_25, g_X11_back_26, g_X11_back_29, g_X11_back_31, lk_X11_back, XI, Nat.reduceAdd, Nat.reduceEqDiff, not_false_eq_true, nI_T1, nI_T0, true_and, and_true, WC, WV, WU, e, show nI 0 - nI 1 < 0 ↔ True from ⟨fun _ => trivial, fun _ => by decide⟩, if_true]
      exact hQ
    · have e : I 61 4 = nI 0 := by rw [h.2.2.1, h0]
      rw [em_X12_back]
      simp (disch := omega) only [g_X12_back_0, g_X12_back_1, g_X12_back_4, g_X12_back_7, g_X12_back_9, lk_X12_back, XI, Nat.reduceAdd, Nat.reduceEqDiff, not_false_eq_true, nI_T1, nI_T0, true_and, and_true, WC, WV, WU, e, nI_00, not_true_eq_false, if_false]
      exact hQ
  · obtain ⟨X, hX⟩ : ∃ X, L[L.length - 1]? = some X := ⟨_, List.getElem?_eq_getElem (by omega)⟩
    have hXo := hS.2.2.2.1 _ X hX
    have ht : ∀ (k : Nat) (Y : Dt), (L.take (L.length - 1))[k]? = some Y → k < L.length - 1 ∧ L[k]? = some Y := by
      intro k Y e
      rw [List.getElem?_take] at e
      split at e
      · exact ⟨by assumption, e⟩
      · cases e
    have htl : (L.take (L.length - 1)).length = L.length - 1 := by rw [List.length_take]; omega
    refine ⟨X, Ds, L.take (L.length - 1), tp, rea, .int (nI (L.length - 1)), ⟨hXo, hS.2.1, by omega, fun k Y e => hS.2.2.2.1 k Y (ht k Y e).2, hS.2.2.2.2⟩, fun d P n s I J R Q h hQ => ?_, fun d P n s I J R Q g8 h hQ => ?_, Or.inl ⟨_, rfl⟩⟩
    · obtain ⟨c1, c2, c3, c4, c5, c6, c7, c8⟩ := h
      obtain ⟨q, hR, hq⟩ := c5 _ X hX
      rw [em_X11_back]
      simp (disch := omega) only [K_X11_back, lk_X11_back, XI, Nat.reduceAdd, Nat.reduceEqDiff, not_false_eq_true, nI_T1, nI_T0, true_and, and_true, WC, WV, WU, c4, nI_subS, nI_lt0S, if_false, nI_leS, nI_cl, rs_in_t, hR, va_rf, rs_u2_ne]
      rw [if_neg (by omega)]
      refine hQ P n s _ J _ ⟨c1, ⟨q, by rw [rs_u2_ne _ _ (by omega), rs_u2_eq], hq⟩, ?_, by rw [rs_u2_eq, htl], ?_, ?_, ?_, ?_⟩ (fC_u (fC_r I) (by decide)) (fC_r J) (by omega) (by omega)
      · rw [rs_u2_ne _ _ (by omega), rs_u2_ne _ _ (by omega)]
        exact c3
      · intro k Y e
        obtain ⟨e1, e2⟩ := ht k Y e
        rw [rs_u2_ne _ _ (by omega), rs_u2_ne _ _ (by omega)]
        exact c5 k Y e2
      · rw [rs_u2_ne _ _ (by omega)]; exact c6
      · rw [rs_u2_ne _ _ (by omega)]; exact c7
      · intro k v e
        rw [rs_u2_ne _ _ (by omega)]; exact c8 k v e
    · have e4 := h.2.2.1
      rw [em_X12_back]
      have hne : ¬ nI L.length = 0 := fun z => h0 ((nI_eq0S (by omega)).mp z)
      simp (disch := omega) only [g_X12_back_0, g_X12_back_1, g_X12_back_4, g_X12_back_7, g_X12_back_9, g_X12_back_10, g_X12_back_11, g_X12_back_12, g_X12_back_15, g_X12_back_16, g_X12_back_17, g_X12_back_20, g_X12_back_21, lk_X12_back, XI, Nat.reduceAdd, Nat.reduceEqDiff, not_false_eq_true, nI_T1, nI_T0, true_and, and_true, WC, WV, WU, e4, hne, not_false_eq_true, if_true, nI_subS]
      have g4 : rs_u2 I 61 4 (nI (L.length - 1)) 61 4 = nI (L.length - 1) := rs_u2_eq _ _ _ _
      have hl := X12_back_l P n s (rs_u2 I 61 4 (nI (L.length - 1))) J R (d + 60) Q (show L.length - 1 < 8 by omega) g4 448 0 rfl
      rw [cpU_0] at hl
      refine hl ?_
      simp (disch := omega) only [g_X12_back_56, g_X12_back_57, g_X12_back_60, lk_X12_back, XI, Nat.reduceAdd, Nat.reduceEqDiff, not_false_eq_true, nI_T1, nI_T0, true_and, and_true, WC, WV, WU, cpU_ne, g4]
      refine hQ _ J (RI_p h ?_ ?_ ?_ ?_ ?_ ?_) (fR_cp (fR_u (fR_r I) (by decide)) (by decide)) (fR_r J)
      · refine mDt_c hXo (fun j hj => ?_) (h.2.2.2.1 _ X hX)
        rw [cpU_in _ _ _ _ _ (Nat.zero_le j) hj, rs_u2_ne _ _ (by omega)]
      · have a2 := h.2.1
        unfold rSnap at a2 ⊢
        cases Ds with
        | none => rw [cpU_ne _ _ _ _ _ _ (by decide), rs_u2_ne _ _ (by omega)]; exact a2
        | some Y =>
          refine ⟨by rw [cpU_ne _ _ _ _ _ _ (by decide), rs_u2_ne _ _ (by omega)]; exact a2.1, ?_⟩
          rw [show (cpU (rs_u2 I 61 4 (nI (L.length - 1))) 62 0 448 fun j => rs_u2 I 61 4 (nI (L.length - 1)) 64 (448 * (L.length - 1) + j)) 63 = I 63 from funext fun j => by rw [cpU_ne _ _ _ _ _ _ (by decide), rs_u2_ne _ _ (by omega)]]
          exact a2.2
      · rw [cpU_ne _ _ _ _ _ _ (by decide), g4, htl]
      · intro k Y e
        obtain ⟨e1, e2⟩ := ht k Y e
        rw [show (fun j => cpU (rs_u2 I 61 4 (nI (L.length - 1))) 62 0 448 (fun j => rs_u2 I 61 4 (nI (L.length - 1)) 64 (448 * (L.length - 1) + j)) 64 (448 * k + j)) = fun j => I 64 (448 * k + j) from funext fun j => by rw [cpU_ne _ _ _ _ _ _ (by decide), rs_u2_ne _ _ (by omega)]]
        exact h.2.2.2.1 k Y e2
      · intro j
        rw [cpU_ne _ _ _ _ _ _ (by decide), rs_u2_ne _ _ (by omega)]
      · intro j hj
        rw [cpU_ne _ _ _ _ _ _ (by decide), rs_u2_ne _ _ (by omega)]
end
