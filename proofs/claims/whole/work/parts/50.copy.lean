/-! a state of the class is copied -/
theorem vu_eq {α : Type} (f : Nat → α) (i : Nat) (v : α) : va_up f i v i = v := if_pos rfl
theorem vu_ne {α : Type} (f : Nat → α) {i j : Nat} (v : α) (h : ¬ j = i) : va_up f i v j = f j := if_neg h
theorem vu_vu {α : Type} (f : Nat → α) (i : Nat) (v u : α) : va_up (va_up f i v) i u = va_up f i u := by
  funext j
  unfold va_up
  by_cases h : j = i
  · rw [if_pos h, if_pos h]
  · rw [if_neg h, if_neg h, if_neg h]
theorem vu_id {α : Type} (f : Nat → α) (i : Nat) (v : α) (h : f i = v) : va_up f i v = f := by
  funext j
  unfold va_up
  by_cases e : j = i
  · rw [if_pos e, e, h]
  · rw [if_neg e]
theorem oa_rf {w : rs_H} {k : Nat} {o : Option Nat} (h : ∀ x, o = some x → ∃ c, w.1 x = some c ∧ c.1 = rs_ak k) : rs_oa w k (va_rf o) := by
  cases o with
  | none => exact (rs_oa_n w k).mpr trivial
  | some x =>
    obtain ⟨c, h1, h2⟩ := h x rfl
    show (match w.1 x with | some c => decide (c.1 = rs_ak k) | none => false) = true
    rw [h1]
    exact decide_eq_true h2
/-- a row of references, laid as far as k -/
def uRow (u : Nat → Option Nat) (k : Nat) : Nat → Value := fun j => if j < k then va_rf (u j) else .null
theorem uRow_s (u : Nat → Option Nat) (k : Nat) : va_up (uRow u k) k (va_rf (u k)) = uRow u (k + 1) := by
  funext j
  unfold va_up uRow
  by_cases h : j = k
  · rw [if_pos h, if_pos (by omega), h]
  · rw [if_neg h]
    by_cases h2 : j < k
    · rw [if_pos h2, if_pos (by omega)]
    · rw [if_neg h2, if_neg (by omega)]
theorem uRow_0 (u : Nat → Option Nat) : uRow u 0 = fun _ => .null := rfl
section
variable {P : Nat → Option rs_C} (n s : Nat) (I : Nat → Nat → Int32) (J : Nat → Nat → Int64) (R : Nat → Nat → Option Nat) (d : Nat) (Q : rs_H → Option Value → Prop)
theorem s_X7_init {q : Nat} {V : Nat → Value} (h84 : 84 ≤ n) (hqn : q < n) (kq : sk_kn q = none) (hq : P q = some (6, 5, V))
    (hQ : ∀ P', P' q = some (6, 5, va_up (va_up (va_up (va_up (va_up V 0 (.ref n)) 1 (.ref (n + 1))) 2 (.ref (n + 2))) 3 (.int (-1))) 4 (.long (lN 1))) → P' n = some (17, 8, fun _ => .null) → P' (n + 1) = some (15, 12, fun _ => .null) → P' (n + 2) = some (19, 6, fun _ => .null) → (∀ i, i < n → ¬ i = q → P' i = P i) → Q (sk_w P' (n + 3) (s + 26) I J R) none) : rs_XM d yX7_init [.ref q] (sk_w P n s I J R) Q := by
  rw [em_X7_init]
  simp (disch := omega) only [K_X7_init, lk_X7_init, XI, Nat.reduceAdd, Nat.reduceEqDiff, not_false_eq_true, nI_T1, nI_T0, true_and, and_true, WC, WV, WU, sk_new, sk_nx, sk_pool kq, sk_up_p kq, vu_eq, vu_ne, hq, nI_cl, nI_lt0S, not_false_eq_true, Nat.reduceLeDiff]
  refine hQ _ ?_ ?_ ?_ ?_ ?_
  · rw [vu_eq]
  · rw [vu_ne _ _ (by omega), vu_ne _ _ (by omega), vu_ne _ _ (by omega), vu_ne _ _ (by omega), vu_ne _ _ (by omega), vu_ne _ _ (by omega), vu_ne _ _ (by omega), vu_eq]
    rfl
  · rw [vu_ne _ _ (by omega), vu_ne _ _ (by omega), vu_ne _ _ (by omega), vu_ne _ _ (by omega), vu_ne _ _ (by omega), vu_eq]
    rfl
  · rw [vu_ne _ _ (by omega), vu_ne _ _ (by omega), vu_ne _ _ (by omega), vu_eq]
    rfl
  · intro i hi hiq
    rw [vu_ne _ _ hiq, vu_ne _ _ hiq, vu_ne _ _ hiq, vu_ne _ _ (by omega), vu_ne _ _ hiq, vu_ne _ _ (by omega), vu_ne _ _ hiq, vu_ne _ _ (by omega)]
theorem r_recipeAt {q a : Nat} {V U : Nat → Value} (kq : sk_kn q = none) (hq : P q = some (6, 5, V)) (v0 : V 0 = .ref a) (ka : sk_kn a = none) (ha : P a = some (17, 8, U)) {r : Nat} (hr : r < 8) {o : Option Nat} (hu : U r = va_rf o) : rs_XM d yX7_recipeAt [.ref q, .int (nI r)] (sk_w P n s I J R) Q ↔ Q (sk_w P n s I J R) (some (va_rf o)) := by
  rw [em_X7_recipeAt]
  simp (disch := omega) only [K_X7_recipeAt, lk_X7_recipeAt, XI, Nat.reduceAdd, Nat.reduceEqDiff, not_false_eq_true, nI_T1, nI_T0, true_and, and_true, WC, WV, WU, sk_pool kq, sk_pool ka, hq, ha, v0, nI_lt0S, nI_leS, nI_cl, rs_in_t, hu, if_false]
  rw [if_neg (by omega)]
theorem r_putRecipe {q a : Nat} {V U : Nat → Value} (kq : sk_kn q = none) (hq : P q = some (6, 5, V)) (v0 : V 0 = .ref a) (ka : sk_kn a = none) (ha : P a = some (17, 8, U)) (ha0 : ¬ a = 0) {r : Nat} (hr : r < 8) {o : Option Nat} (ho : ∀ x, o = some x → sk_kn x = none ∧ ∃ c, P x = some c ∧ c.1 = 4) : rs_XM d yX7_putRecipe [.ref q, .int (nI r), va_rf o] (sk_w P n s I J R) Q ↔ Q (sk_w (va_up P a (some (17, 8, va_up U r (va_rf o)))) n s I J R) none := by
  have hoa : rs_oa (sk_w P n s I J R) 17 (va_rf o) := oa_rf (fun x e => by
    obtain ⟨h1, c, h2, h3⟩ := ho x e
    exact ⟨c, by rw [sk_pool h1, h2], h3⟩)
  rw [em_X7_putRecipe_rf]
  simp (disch := omega) only [K_X7_putRecipe, lk_X7_putRecipe, XI, Nat.reduceAdd, Nat.reduceEqDiff, not_false_eq_true, nI_T1, nI_T0, true_and, and_true, WC, WV, WU, sk_pool kq, sk_pool ka, sk_up_p ka, hq, ha, v0, nI_lt0S, nI_leS, nI_cl, rs_in_t, if_false, ha0, hoa]
  rw [if_neg (by omega)]
theorem r_ingredientAt {q a : Nat} {V U : Nat → Value} (kq : sk_kn q = none) (hq : P q = some (6, 5, V)) (v0 : V 1 = .ref a) (ka : sk_kn a = none) (ha : P a = some (15, 12, U)) {r : Nat} (hr : r < 12) {o : Option Nat} (hu : U r = va_rf o) : rs_XM d yX7_ingredientAt [.ref q, .int (nI r)] (sk_w P n s I J R) Q ↔ Q (sk_w P n s I J R) (some (va_rf o)) := by
  rw [em_X7_ingredientAt]
  simp (disch := omega) only [K_X7_ingredientAt, lk_X7_ingredientAt, XI, Nat.reduceAdd, Nat.reduceEqDiff, not_false_eq_true, nI_T1, nI_T0, true_and, and_true, WC, WV, WU, sk_pool kq, sk_pool ka, hq, ha, v0, nI_lt0S, nI_leS, nI_cl, rs_in_t, hu, if_false]
  rw [if_neg (by omega)]
theorem r_putIngredient {q a : Nat} {V U : Nat → Value} (kq : sk_kn q = none) (hq : P q = some (6, 5, V)) (v0 : V 1 = .ref a) (ka : sk_kn a = none) (ha : P a = some (15, 12, U)) (ha0 : ¬ a = 0) {r : Nat} (hr : r < 12) {o : Option Nat} (ho : ∀ x, o = some x → sk_kn x = none ∧ ∃ c, P x = some c ∧ c.1 = 0) : rs_XM d yX7_putIngredient [.ref q, .int (nI r), va_rf o] (sk_w P n s I J R) Q ↔ Q (sk_w (va_up P a (some (15, 12, va_up U r (va_rf o)))) n s I J R) none := by
  have hoa : rs_oa (sk_w P n s I J R) 15 (va_rf o) := oa_rf (fun x e => by
    obtain ⟨h1, c, h2, h3⟩ := ho x e
    exact ⟨c, by rw [sk_pool h1, h2], h3⟩)
  rw [em_X7_putIngredient_rf]
  simp (disch := omega) only [K_X7_putIngredient, lk_X7_putIngredient, XI, Nat.reduceAdd, Nat.reduceEqDiff, not_false_eq_true, nI_T1, nI_T0, true_and, and_true, WC, WV, WU, sk_pool kq, sk_pool ka, sk_up_p ka, hq, ha, v0, nI_lt0S, nI_leS, nI_cl, rs_in_t, if_false, ha0, hoa]
  rw [if_neg (by omega)]
theorem r_substitutionAt {q a : Nat} {V U : Nat → Value} (kq : sk_kn q = none) (hq : P q = some (6, 5, V)) (v0 : V 2 = .ref a) (ka : sk_kn a = none) (ha : P a = some (19, 6, U)) {r : Nat} (hr : r < 6) {o : Option Nat} (hu : U r = va_rf o) : rs_XM d yX7_substitutionAt [.ref q, .int (nI r)] (sk_w P n s I J R) Q ↔ Q (sk_w P n s I J R) (some (va_rf o)) := by
  rw [em_X7_substitutionAt]
  simp (disch := omega) only [K_X7_substitutionAt, lk_X7_substitutionAt, XI, Nat.reduceAdd, Nat.reduceEqDiff, not_false_eq_true, nI_T1, nI_T0, true_and, and_true, WC, WV, WU, sk_pool kq, sk_pool ka, hq, ha, v0, nI_lt0S, nI_leS, nI_cl, rs_in_t, hu, if_false]
  rw [if_neg (by omega)]
theorem r_putSubstitution {q a : Nat} {V U : Nat → Value} (kq : sk_kn q = none) (hq : P q = some (6, 5, V)) (v0 : V 2 = .ref a) (ka : sk_kn a = none) (ha : P a = some (19, 6, U)) (ha0 : ¬ a = 0) {r : Nat} (hr : r < 6) {o : Option Nat} (ho : ∀ x, o = some x → sk_kn x = none ∧ ∃ c, P x = some c ∧ c.1 = 7) : rs_XM d yX7_putSubstitution [.ref q, .int (nI r), va_rf o] (sk_w P n s I J R) Q ↔ Q (sk_w (va_up P a (some (19, 6, va_up U r (va_rf o)))) n s I J R) none := by
  have hoa : rs_oa (sk_w P n s I J R) 19 (va_rf o) := oa_rf (fun x e => by
    obtain ⟨h1, c, h2, h3⟩ := ho x e
    exact ⟨c, by rw [sk_pool h1, h2], h3⟩)
  rw [em_X7_putSubstitution_rf]
  simp (disch := omega) only [K_X7_putSubstitution, lk_X7_putSubstitution, XI, Nat.reduceAdd, Nat.reduceEqDiff, not_false_eq_true, nI_T1, nI_T0, true_and, and_true, WC, WV, WU, sk_pool kq, sk_pool ka, sk_up_p ka, hq, ha, v0, nI_lt0S, nI_leS, nI_cl, rs_in_t, if_false, ha0, hoa]
  rw [if_neg (by omega)]
theorem X7_copy_r {q z a a' : Nat} {V W U : Nat → Value} {u : Nat → Option Nat} (kq : sk_kn q = none) (hq : P q = some (6, 5, V)) (v0 : V 0 = .ref a) (ka : sk_kn a = none) (ha : P a = some (17, 8, U)) (hu : ∀ r, r < 8 → U r = va_rf (u r)) (ho : ∀ r x, r < 8 → u r = some x → sk_kn x = none ∧ ∃ c, P x = some c ∧ c.1 = 4)
    (kz : sk_kn z = none) (hz : P z = some (6, 5, W)) (w0 : W 0 = .ref a') (ka' : sk_kn a' = none) {U0 : Nat → Value} (ha' : P a' = some (17, 8, U0)) (h0 : ¬ a' = 0) (haa : ¬ a = a') (hqz : ∀ x, (∃ c, P x = some c ∧ c.1 = 4) → ¬ x = a') :
    ∀ (j k : Nat), k + j = 8 → rs_X (d + 1) yX7_copy 32 [some (.ref q), some (.ref z), some (.int (nI 8))] [] (sk_w (va_up P a' (some (17, 8, uRow u 8))) n s I J R) Q →
    rs_X (d + 1) yX7_copy 10 [some (.ref q), some (.ref z), some (.int (nI k))] [] (sk_w (va_up P a' (some (17, 8, uRow u k))) n s I J R) Q := by
  intro j
  induction j with
  | zero =>
    intro k hk h
    have : k = 8 := by omega
    subst this
    rw [g_X7_copy_10]
    simp (disch := omega) only [g_X7_copy_11, g_X7_copy_13, g_X7_copy_16, g_X7_copy_17, g_X7_copy_18, g_X7_copy_19, g_X7_copy_20, g_X7_copy_23, g_X7_copy_26, g_X7_copy_29, lk_X7_copy, XI, Nat.reduceAdd, Nat.reduceEqDiff, not_false_eq_true, nI_T1, nI_T0, true_and, and_true, WC, WV, WU, nI_leS, Nat.le_refl, if_true]
    exact h
  | succ j ih =>
    intro k hk h
    have q2 : va_up P a' (some (17, 8, uRow u k)) q = some (6, 5, V) := by
      rw [vu_ne]
      · exact hq
      · intro e; rw [e, ha'] at hq; cases hq
    have z2 : va_up P a' (some (17, 8, uRow u k)) z = some (6, 5, W) := by
      rw [vu_ne]
      · exact hz
      · intro e; rw [e, ha'] at hz; cases hz
    have a2 : va_up P a' (some (17, 8, uRow u k)) a = some (17, 8, U) := by
      rw [vu_ne _ _ haa]
      exact ha
    have o2 : ∀ x, u k = some x → sk_kn x = none ∧ ∃ c, va_up P a' (some (17, 8, uRow u k)) x = some c ∧ c.1 = 4 := by
      intro x e
      obtain ⟨h1, h2⟩ := ho k x (by omega) e
      refine ⟨h1, ?_⟩
      rw [vu_ne _ _ (hqz x h2)]
      exact h2
    rw [g_X7_copy_10]
    simp (disch := omega) only [g_X7_copy_11, g_X7_copy_13, g_X7_copy_16, g_X7_copy_17, g_X7_copy_18, g_X7_copy_19, g_X7_copy_20, g_X7_copy_23, g_X7_copy_26, g_X7_copy_29, lk_X7_copy, XI, Nat.reduceAdd, Nat.reduceEqDiff, not_false_eq_true, nI_T1, nI_T0, true_and, and_true, WC, WV, WU, nI_leS, sk_pool kq, sk_pool kz, q2, z2, r_recipeAt n s I J R _ _ kq q2 v0 ka a2 (show k < 8 by omega) (hu k (by omega)), r_putRecipe n s I J R _ _ kz z2 w0 ka' (vu_eq _ _ _) h0 (show k < 8 by omega) o2, nI_addS, vu_vu, uRow_s]
    rw [if_neg (by omega)]
    exact ih (k + 1) (by omega) h
theorem X7_copy_i {q z a a' : Nat} {V W U : Nat → Value} {u : Nat → Option Nat} (kq : sk_kn q = none) (hq : P q = some (6, 5, V)) (v0 : V 1 = .ref a) (ka : sk_kn a = none) (ha : P a = some (15, 12, U)) (hu : ∀ r, r < 12 → U r = va_rf (u r)) (ho : ∀ r x, r < 12 → u r = some x → sk_kn x = none ∧ ∃ c, P x = some c ∧ c.1 = 0)
    (kz : sk_kn z = none) (hz : P z = some (6, 5, W)) (w0 : W 1 = .ref a') (ka' : sk_kn a' = none) {U0 : Nat → Value} (ha' : P a' = some (15, 12, U0)) (h0 : ¬ a' = 0) (haa : ¬ a = a') (hqz : ∀ x, (∃ c, P x = some c ∧ c.1 = 0) → ¬ x = a') :
    ∀ (j k : Nat), k + j = 12 → rs_X (d + 1) yX7_copy 56 [some (.ref q), some (.ref z), some (.int (nI 12))] [] (sk_w (va_up P a' (some (15, 12, uRow u 12))) n s I J R) Q →
    rs_X (d + 1) yX7_copy 34 [some (.ref q), some (.ref z), some (.int (nI k))] [] (sk_w (va_up P a' (some (15, 12, uRow u k))) n s I J R) Q := by
  intro j
  induction j with
  | zero =>
    intro k hk h
    have : k = 12 := by omega
    subst this
    rw [g_X7_copy_34]
    simp (disch := omega) only [g_X7_copy_35, g_X7_copy_37, g_X7_copy_40, g_X7_copy_41, g_X7_copy_42, g_X7_copy_43, g_X7_copy_44, g_X7_copy_47, g_X7_copy_50, g_X7_copy_53, lk_X7_copy, XI, Nat.reduceAdd, Nat.reduceEqDiff, not_false_eq_true, nI_T1, nI_T0, true_and, and_true, WC, WV, WU, nI_leS, Nat.le_refl, if_true]
    exact h
  | succ j ih =>
    intro k hk h
    have q2 : va_up P a' (some (15, 12, uRow u k)) q = some (6, 5, V) := by
      rw [vu_ne]
      · exact hq
      · intro e; rw [e, ha'] at hq; cases hq
    have z2 : va_up P a' (some (15, 12, uRow u k)) z = some (6, 5, W) := by
      rw [vu_ne]
      · exact hz
      · intro e; rw [e, ha'] at hz; cases hz
    have a2 : va_up P a' (some (15, 12, uRow u k)) a = some (15, 12, U) := by
      rw [vu_ne _ _ haa]
      exact ha
    have o2 : ∀ x, u k = some x → sk_kn x = none ∧ ∃ c, va_up P a' (some (15, 12, uRow u k)) x = some c ∧ c.1 = 0 := by
      intro x e
      obtain ⟨h1, h2⟩ := ho k x (by omega) e
      refine ⟨h1, ?_⟩
      rw [vu_ne _ _ (hqz x h2)]
      exact h2
    rw [g_X7_copy_34]
    simp (disch := omega) only [g_X7_copy_35, g_X7_copy_37, g_X7_copy_40, g_X7_copy_41, g_X7_copy_42, g_X7_copy_43, g_X7_copy_44, g_X7_copy_47, g_X7_copy_50, g_X7_copy_53, lk_X7_copy, XI, Nat.reduceAdd, Nat.reduceEqDiff, not_false_eq_true, nI_T1, nI_T0, true_and, and_true, WC, WV, WU, nI_leS, sk_pool kq, sk_pool kz, q2, z2, r_ingredientAt n s I J R _ _ kq q2 v0 ka a2 (show k < 12 by omega) (hu k (by omega)), r_putIngredient n s I J R _ _ kz z2 w0 ka' (vu_eq _ _ _) h0 (show k < 12 by omega) o2, nI_addS, vu_vu, uRow_s]
    rw [if_neg (by omega)]
    exact ih (k + 1) (by omega) h
theorem X7_copy_s {q z a a' : Nat} {V W U : Nat → Value} {u : Nat → Option Nat} (kq : sk_kn q = none) (hq : P q = some (6, 5, V)) (v0 : V 2 = .ref a) (ka : sk_kn a = none) (ha : P a = some (19, 6, U)) (hu : ∀ r, r < 6 → U r = va_rf (u r)) (ho : ∀ r x, r < 6 → u r = some x → sk_kn x = none ∧ ∃ c, P x = some c ∧ c.1 = 7)
    (kz : sk_kn z = none) (hz : P z = some (6, 5, W)) (w0 : W 2 = .ref a') (ka' : sk_kn a' = none) {U0 : Nat → Value} (ha' : P a' = some (19, 6, U0)) (h0 : ¬ a' = 0) (haa : ¬ a = a') (hqz : ∀ x, (∃ c, P x = some c ∧ c.1 = 7) → ¬ x = a') :
    ∀ (j k : Nat), k + j = 6 → rs_X (d + 1) yX7_copy 80 [some (.ref q), some (.ref z), some (.int (nI 6))] [] (sk_w (va_up P a' (some (19, 6, uRow u 6))) n s I J R) Q →
    rs_X (d + 1) yX7_copy 58 [some (.ref q), some (.ref z), some (.int (nI k))] [] (sk_w (va_up P a' (some (19, 6, uRow u k))) n s I J R) Q := by
  intro j
  induction j with
  | zero =>
    intro k hk h
    have : k = 6 := by omega
    subst this
    rw [g_X7_copy_58]
    simp (disch := omega) only [g_X7_copy_59, g_X7_copy_61, g_X7_copy_64, g_X7_copy_65, g_X7_copy_66, g_X7_copy_67, g_X7_copy_68, g_X7_copy_71, g_X7_copy_74, g_X7_copy_77, lk_X7_copy, XI, Nat.reduceAdd, Nat.reduceEqDiff, not_false_eq_true, nI_T1, nI_T0, true_and, and_true, WC, WV, WU, nI_leS, Nat.le_refl, if_true]
    exact h
  | succ j ih =>
    intro k hk h
    have q2 : va_up P a' (some (19, 6, uRow u k)) q = some (6, 5, V) := by
      rw [vu_ne]
      · exact hq
      · intro e; rw [e, ha'] at hq; cases hq
    have z2 : va_up P a' (some (19, 6, uRow u k)) z = some (6, 5, W) := by
      rw [vu_ne]
      · exact hz
      · intro e; rw [e, ha'] at hz; cases hz
    have a2 : va_up P a' (some (19, 6, uRow u k)) a = some (19, 6, U) := by
      rw [vu_ne _ _ haa]
      exact ha
    have o2 : ∀ x, u k = some x → sk_kn x = none ∧ ∃ c, va_up P a' (some (19, 6, uRow u k)) x = some c ∧ c.1 = 7 := by
      intro x e
      obtain ⟨h1, h2⟩ := ho k x (by omega) e
      refine ⟨h1, ?_⟩
      rw [vu_ne _ _ (hqz x h2)]
      exact h2
    rw [g_X7_copy_58]
    simp (disch := omega) only [g_X7_copy_59, g_X7_copy_61, g_X7_copy_64, g_X7_copy_65, g_X7_copy_66, g_X7_copy_67, g_X7_copy_68, g_X7_copy_71, g_X7_copy_74, g_X7_copy_77, lk_X7_copy, XI, Nat.reduceAdd, Nat.reduceEqDiff, not_false_eq_true, nI_T1, nI_T0, true_and, and_true, WC, WV, WU, nI_leS, sk_pool kq, sk_pool kz, q2, z2, r_substitutionAt n s I J R _ _ kq q2 v0 ka a2 (show k < 6 by omega) (hu k (by omega)), r_putSubstitution n s I J R _ _ kz z2 w0 ka' (vu_eq _ _ _) h0 (show k < 6 by omega) o2, nI_addS, vu_vu, uRow_s]
    rw [if_neg (by omega)]
    exact ih (k + 1) (by omega) h
end
/-- a state whose cells are known -/
def oSt (P : Nat → Option rs_C) (b q a c e : Nat) (V Ua Uc Ue : Nat → Value) (D : Dt) : Prop := cP P b q (6, 5, V) ∧ cP P b a (17, 8, Ua) ∧ cP P b c (15, 12, Uc) ∧ cP P b e (19, 6, Ue) ∧ V 0 = .ref a ∧ V 1 = .ref c ∧ V 2 = .ref e ∧ cPl V D.pl ∧ (∀ r, r < 8 → D.rc r = none → Ua r = .null) ∧ (∀ r R, r < 8 → D.rc r = some R → ∃ x, Ua r = .ref x ∧ cRc P b x r R) ∧ (∀ i, i < 12 → ∃ x, Uc i = .ref x ∧ cIg P b x (D.ig i)) ∧ (∀ k, k < 6 → D.sb[k]? = none → Ue k = .null) ∧ ∀ k t, k < 6 → D.sb[k]? = some t → ∃ x, Ue k = .ref x ∧ cSb P b x t
theorem cSt_o {P : Nat → Option rs_C} {b q : Nat} {D : Dt} : cSt P b q D ↔ ∃ V a c e Ua Uc Ue, oSt P b q a c e V Ua Uc Ue D := Iff.rfl
def vOf (v : Value) : Option Nat := match v with
  | .ref x => some x
  | _ => none
theorem vOf_r (x : Nat) : va_rf (vOf (.ref x)) = .ref x := rfl
theorem vOf_n : va_rf (vOf .null) = .null := rfl
theorem cPl_v {V : Nat → Value} {o : Option (Nat × (Nat × Nat))} (h : cPl V o) : ∃ x y, V 3 = .int x ∧ V 4 = .long y := by
  cases o with
  | none => exact ⟨_, h.2.choose, h.1, h.2.choose_spec⟩
  | some p => exact ⟨_, _, h.1, h.2⟩
section
variable {P : Nat → Option rs_C} (n s : Nat) (I : Nat → Nat → Int32) (J : Nat → Nat → Int64) (R : Nat → Nat → Option Nat) (d : Nat) (Q : rs_H → Option Value → Prop)
theorem s_X7_copy {q : Nat} {D : Dt} (h84 : 84 ≤ n) (hq : cSt P n q D) (hQ : ∀ P' V Ua Uc Ue, oSt P' (n + 4) n (n + 1) (n + 2) (n + 3) V Ua Uc Ue D → (∀ i, i < n → P' i = P i) → Q (sk_w P' (n + 4) (s + 31) I J R) (some (.ref n))) : rs_XM (d + 2) yX7_copy [.ref q] (sk_w P n s I J R) Q := by
  obtain ⟨V, a, c, e, Ua, Uc, Ue, ⟨hq1, kq, hq3⟩, ⟨ha1, ka, ha3⟩, ⟨hc1, kc, hc3⟩, ⟨he1, ke, he3⟩, v0, v1, v2, hpl, h9, h10, h11, h12, h13⟩ := hq
  have kn : ∀ i, n ≤ i → sk_kn i = none := fun i hi => sk_kn_ge i (by omega)
  rw [em_X7_copy]
  simp (disch := omega) only [g_X7_copy_0, g_X7_copy_3, g_X7_copy_4, lk_X7_copy, XI, Nat.reduceAdd, Nat.reduceEqDiff, not_false_eq_true, nI_T1, nI_T0, true_and, and_true, WC, WV, WU, sk_new, sk_nx]
  refine s_X7_init (n + 1) _ I J R _ _ (by omega) (Nat.lt_succ_self n) (kn n (Nat.le_refl n)) (vu_eq _ _ _) ?_
  intro P1 p1 p2 p3 p4 p5
  have p6 : ∀ i, i < n → P1 i = P i := fun i hi => by rw [p5 i (by omega) (by omega), vu_ne _ _ (by omega)]
  generalize hW : va_up (va_up (va_up (va_up (va_up (fun j => defaultValue (rs_ty 6 j)) 0 (.ref (n + 1))) 1 (.ref (n + 1 + 1))) 2 (.ref (n + 1 + 2))) 3 (.int (-1))) 4 (.long (lN 1)) = W at p1
  have w0 : W 0 = .ref (n + 1) := by rw [← hW]; rfl
  have w1 : W 1 = .ref (n + 2) := by rw [← hW]; rfl
  have w2 : W 2 = .ref (n + 3) := by rw [← hW]; rfl
  have q1 : P1 q = some (6, 5, V) := by rw [p6 q hq1]; exact hq3
  have a1 : P1 a = some (17, 8, Ua) := by rw [p6 a ha1]; exact ha3
  have c1 : P1 c = some (15, 12, Uc) := by rw [p6 c hc1]; exact hc3
  have e1 : P1 e = some (19, 6, Ue) := by rw [p6 e he1]; exact he3
  simp (disch := omega) only [g_X7_copy_7, g_X7_copy_8, g_X7_copy_9, lk_X7_copy, XI, Nat.reduceAdd, Nat.reduceEqDiff, not_false_eq_true, nI_T1, nI_T0, true_and, and_true, WC, WV, WU]
  have uA : ∀ r, r < 8 → Ua r = va_rf (vOf (Ua r)) := by
    intro r hr
    cases hz : D.rc r with
    | none => rw [h9 r hr hz]; rfl
    | some Z =>
      obtain ⟨x, hx, -⟩ := h10 r Z hr hz
      rw [hx]; rfl
  have uC : ∀ r, r < 12 → Uc r = va_rf (vOf (Uc r)) := by
    intro r hr
    obtain ⟨x, hx, -⟩ := h11 r hr
    rw [hx]; rfl
  have uE : ∀ r, r < 6 → Ue r = va_rf (vOf (Ue r)) := by
    intro r hr
    cases hz : D.sb[r]? with
    | none => rw [h12 r hr hz]; rfl
    | some Z =>
      obtain ⟨x, hx, -⟩ := h13 r Z hr hz
      rw [hx]; rfl
  have oA : ∀ r x, r < 8 → vOf (Ua r) = some x → x < n ∧ sk_kn x = none ∧ ∃ c, P x = some c ∧ c.1 = 4 := by
    intro r x hr hx
    cases hz : D.rc r with
    | none => rw [h9 r hr hz] at hx; cases hx
    | some Z =>
      obtain ⟨x2, hx2, V2, _, _, ⟨b1, b2, b3⟩, _⟩ := h10 r Z hr hz
      rw [hx2] at hx
      cases hx
      exact ⟨b1, b2, _, b3, rfl⟩
  have oC : ∀ r x, r < 12 → vOf (Uc r) = some x → x < n ∧ sk_kn x = none ∧ ∃ c, P x = some c ∧ c.1 = 0 := by
    intro r x hr hx
    obtain ⟨x2, hx2, V2, _, _, _, _, ⟨b1, b2, b3⟩, _⟩ := h11 r hr
    rw [hx2] at hx
    cases hx
    exact ⟨b1, b2, _, b3, rfl⟩
  have oE : ∀ r x, r < 6 → vOf (Ue r) = some x → x < n ∧ sk_kn x = none ∧ ∃ c, P x = some c ∧ c.1 = 7 := by
    intro r x hr hx
    cases hz : D.sb[r]? with
    | none => rw [h12 r hr hz] at hx; cases hx
    | some Z =>
      obtain ⟨x2, hx2, V2, ⟨b1, b2, b3⟩, _⟩ := h13 r Z hr hz
      rw [hx2] at hx
      cases hx
      exact ⟨b1, b2, _, b3, rfl⟩
  have eA : va_up P1 (n + 1) (some (17, 8, uRow (fun r => vOf (Ua r)) 0)) = P1 := vu_id _ _ _ (by rw [p2]; rfl)
  rw [← eA]
  refine X7_copy_r (n + 1 + 3) _ I J R (d + 1) _ (u := fun r => vOf (Ua r)) kq q1 v0 ka a1 uA (fun r x hr hx => ?_) (kn n (Nat.le_refl n)) p1 w0 (kn (n + 1) (by omega)) p2 (by omega) (by omega) ?_ 8 0 rfl ?_
  · obtain ⟨z1, z2, z3⟩ := oA r x hr hx
    exact ⟨z2, by rw [p6 x z1]; exact z3⟩
  · rintro x ⟨c0, z1, z2⟩ ex
    rw [ex, p2] at z1
    cases z1
    cases z2
  simp (disch := omega) only [g_X7_copy_32, g_X7_copy_33, lk_X7_copy, XI, Nat.reduceAdd, Nat.reduceEqDiff, not_false_eq_true, nI_T1, nI_T0, true_and, and_true, WC, WV, WU]
  generalize hP2 : va_up P1 (n + 1) (some (17, 8, uRow (fun r => vOf (Ua r)) 8)) = P2
  have r1 : P2 n = some (6, 5, W) := by rw [← hP2, vu_ne _ _ (by omega)]; exact p1
  have r2 : P2 (n + 1) = some (17, 8, uRow (fun r => vOf (Ua r)) 8) := by rw [← hP2, vu_eq]
  have r3 : P2 (n + 2) = some (15, 12, fun _ => .null) := by rw [← hP2, vu_ne _ _ (by omega)]; exact p3
  have r4 : P2 (n + 3) = some (19, 6, fun _ => .null) := by rw [← hP2, vu_ne _ _ (by omega)]; exact p4
  have r6 : ∀ i, i < n → P2 i = P i := fun i hi => by rw [← hP2, vu_ne _ _ (by omega)]; exact p6 i hi
  have eC : va_up P2 (n + 2) (some (15, 12, uRow (fun r => vOf (Uc r)) 0)) = P2 := vu_id _ _ _ (by rw [r3]; rfl)
  rw [← eC]
  refine X7_copy_i (n + 1 + 3) _ I J R (d + 1) _ (u := fun r => vOf (Uc r)) kq (by rw [r6 q hq1]; exact hq3) v1 kc (by rw [r6 c hc1]; exact hc3) uC (fun r x hr hx => ?_) (kn n (Nat.le_refl n)) r1 w1 (kn (n + 2) (by omega)) r3 (by omega) (by omega) ?_ 12 0 rfl ?_
  · obtain ⟨z1, z2, z3⟩ := oC r x hr hx
    exact ⟨z2, by rw [r6 x z1]; exact z3⟩
  · rintro x ⟨c0, z1, z2⟩ ex
    rw [ex, r3] at z1
    cases z1
    cases z2
  simp (disch := omega) only [g_X7_copy_56, g_X7_copy_57, lk_X7_copy, XI, Nat.reduceAdd, Nat.reduceEqDiff, not_false_eq_true, nI_T1, nI_T0, true_and, and_true, WC, WV, WU]
  generalize hP3 : va_up P2 (n + 2) (some (15, 12, uRow (fun r => vOf (Uc r)) 12)) = P3
  have t1 : P3 n = some (6, 5, W) := by rw [← hP3, vu_ne _ _ (by omega)]; exact r1
  have t2 : P3 (n + 1) = some (17, 8, uRow (fun r => vOf (Ua r)) 8) := by rw [← hP3, vu_ne _ _ (by omega)]; exact r2
  have t3 : P3 (n + 2) = some (15, 12, uRow (fun r => vOf (Uc r)) 12) := by rw [← hP3, vu_eq]
  have t4 : P3 (n + 3) = some (19, 6, fun _ => .null) := by rw [← hP3, vu_ne _ _ (by omega)]; exact r4
  have t6 : ∀ i, i < n → P3 i = P i := fun i hi => by rw [← hP3, vu_ne _ _ (by omega)]; exact r6 i hi
  have eE : va_up P3 (n + 3) (some (19, 6, uRow (fun r => vOf (Ue r)) 0)) = P3 := vu_id _ _ _ (by rw [t4]; rfl)
  rw [← eE]
  refine X7_copy_s (n + 1 + 3) _ I J R (d + 1) _ (u := fun r => vOf (Ue r)) kq (by rw [t6 q hq1]; exact hq3) v2 ke (by rw [t6 e he1]; exact he3) uE (fun r x hr hx => ?_) (kn n (Nat.le_refl n)) t1 w2 (kn (n + 3) (by omega)) t4 (by omega) (by omega) ?_ 6 0 rfl ?_
  · obtain ⟨z1, z2, z3⟩ := oE r x hr hx
    exact ⟨z2, by rw [t6 x z1]; exact z3⟩
  · rintro x ⟨c0, z1, z2⟩ ex
    rw [ex, t4] at z1
    cases z1
    cases z2
  generalize hP4 : va_up P3 (n + 3) (some (19, 6, uRow (fun r => vOf (Ue r)) 6)) = P4
  have y1 : P4 n = some (6, 5, W) := by rw [← hP4, vu_ne _ _ (by omega)]; exact t1
  have y2 : P4 (n + 1) = some (17, 8, uRow (fun r => vOf (Ua r)) 8) := by rw [← hP4, vu_ne _ _ (by omega)]; exact t2
  have y3 : P4 (n + 2) = some (15, 12, uRow (fun r => vOf (Uc r)) 12) := by rw [← hP4, vu_ne _ _ (by omega)]; exact t3
  have y4 : P4 (n + 3) = some (19, 6, uRow (fun r => vOf (Ue r)) 6) := by rw [← hP4, vu_eq]
  have y6 : ∀ i, i < n → P4 i = P i := fun i hi => by rw [← hP4, vu_ne _ _ (by omega)]; exact t6 i hi
  have yq : P4 q = some (6, 5, V) := by rw [y6 q hq1]; exact hq3
  obtain ⟨pi, pl, v3, v4⟩ := cPl_v hpl
  simp (disch := omega) only [g_X7_copy_80, g_X7_copy_81, g_X7_copy_82, g_X7_copy_85, g_X7_copy_88, g_X7_copy_89, g_X7_copy_90, g_X7_copy_93, g_X7_copy_96, g_X7_copy_97, lk_X7_copy, XI, Nat.reduceAdd, Nat.reduceEqDiff, not_false_eq_true, nI_T1, nI_T0, true_and, and_true, WC, WV, WU, sk_pool kq, sk_pool (kn n (Nat.le_refl n)), sk_up_p (kn n (Nat.le_refl n)), vu_eq, vu_ne, y1, yq, v3, v4]
  have hm : ∀ i, i < n → va_up (va_up P4 n (some (6, 5, va_up W 3 (.int pi)))) n (some (6, 5, va_up (va_up W 3 (.int pi)) 4 (.long pl))) i = P i := fun i hi => by rw [vu_ne _ _ (by omega), vu_ne _ _ (by omega)]; exact y6 i hi
  have hQ2 := hQ (va_up (va_up P4 n (some (6, 5, va_up W 3 (.int pi)))) n (some (6, 5, va_up (va_up W 3 (.int pi)) 4 (.long pl)))) (va_up (va_up W 3 (.int pi)) 4 (.long pl)) (uRow (fun r => vOf (Ua r)) 8) (uRow (fun r => vOf (Uc r)) 12) (uRow (fun r => vOf (Ue r)) 6) ?_ hm
  · rw [show n + 4 = n + 1 + 3 by omega, show s + 31 = s + 5 + 26 by omega]
    exact hQ2
  · refine ⟨⟨by omega, kn n (Nat.le_refl n), vu_eq _ _ _⟩, ⟨by omega, kn _ (by omega), ?_⟩, ⟨by omega, kn _ (by omega), ?_⟩, ⟨by omega, kn _ (by omega), ?_⟩, ?_, ?_, ?_, ?_, ?_, ?_, ?_, ?_, ?_⟩
    · rw [vu_ne _ _ (by omega), vu_ne _ _ (by omega)]; exact y2
    · rw [vu_ne _ _ (by omega), vu_ne _ _ (by omega)]; exact y3
    · rw [vu_ne _ _ (by omega), vu_ne _ _ (by omega)]; exact y4
    · rw [vu_ne _ _ (by decide), vu_ne _ _ (by decide)]; exact w0
    · rw [vu_ne _ _ (by decide), vu_ne _ _ (by decide)]; exact w1
    · rw [vu_ne _ _ (by decide), vu_ne _ _ (by decide)]; exact w2
    · cases hp : D.pl with
      | none =>
        rw [hp] at hpl
        refine ⟨?_, pl, vu_eq _ _ _⟩
        rw [vu_ne _ _ (by decide), vu_eq, ← v3]
        exact hpl.1
      | some p =>
        rw [hp] at hpl
        refine ⟨?_, ?_⟩
        · rw [vu_ne _ _ (by decide), vu_eq, ← v3]
          exact hpl.1
        · rw [vu_eq, ← v4]
          exact hpl.2
    · intro r hr hz
      show (if r < 8 then va_rf (vOf (Ua r)) else .null) = _
      rw [if_pos hr, ← uA r hr]
      exact h9 r hr hz
    · intro r Z hr hz
      obtain ⟨x, hx, hc⟩ := h10 r Z hr hz
      refine ⟨x, ?_, cRc_m hm (by omega) hc⟩
      show (if r < 8 then va_rf (vOf (Ua r)) else .null) = _
      rw [if_pos hr, ← uA r hr]
      exact hx
    · intro r hr
      obtain ⟨x, hx, hc⟩ := h11 r hr
      refine ⟨x, ?_, cIg_m hm (by omega) hc⟩
      show (if r < 12 then va_rf (vOf (Uc r)) else .null) = _
      rw [if_pos hr, ← uC r hr]
      exact hx
    · intro r hr hz
      show (if r < 6 then va_rf (vOf (Ue r)) else .null) = _
      rw [if_pos hr, ← uE r hr]
      exact h12 r hr hz
    · intro r Z hr hz
      obtain ⟨x, hx, hc⟩ := h13 r Z hr hz
      refine ⟨x, ?_, cSb_m hm (by omega) hc⟩
      show (if r < 6 then va_rf (vOf (Ue r)) else .null) = _
      rw [if_pos hr, ← uE r hr]
      exact hx
end
