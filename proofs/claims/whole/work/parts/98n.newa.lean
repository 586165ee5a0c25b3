/-! the start: the class's parts are made, in a world of cells without known places -/
theorem rw_new (C : Nat → Option rs_C) (n s : Nat) (c : rs_C) : rs_new ((C, n, s) : rs_H) c = (va_up C n (some c), n + 1, s + c.2.1) := rfl
theorem rw_up (C : Nat → Option rs_C) (n s q : Nat) (c : rs_C) : rs_up ((C, n, s) : rs_H) q c = (va_up C q (some c), n, s) := rfl
/-- what stands at a known place -/
def wsT (V : Nat → Value) (k q : Nat) : Prop := ∀ j, match sk_tg k j with
  | 0 => ∃ x, V j = .int x
  | 1 => ∃ x, V j = .long x
  | 2 => ∃ o, V j = va_rf o
  | _ => V j = va_rf (sk_fx q j)
def wsC (C : Nat → Option rs_C) (q k m : Nat) : Prop := ∃ V, C q = some (k, m, V) ∧ wsT V k q
theorem wsT_i {V : Nat → Value} {k q : Nat} (hk : k = 12 ∨ k = 14) (h : ∀ j, ∃ x, V j = .int x) : wsT V k q := by
  intro j
  rcases hk with rfl | rfl <;> exact h j
theorem wsT_j {V : Nat → Value} {q : Nat} (h : ∀ j, ∃ x, V j = .long x) : wsT V 13 q := fun j => h j
theorem wsC_f {C C' : Nat → Option rs_C} {q k m : Nat} (h : wsC C q k m) (e : C' q = C q) : wsC C' q k m := by
  obtain ⟨V, h1, h2⟩ := h
  exact ⟨V, by rw [e]; exact h1, h2⟩
section
variable {C : Nat → Option rs_C} (n s d : Nat) (Q : rs_H → Option Value → Prop)
theorem X9_in_l {q m a : Nat} {V : Nat → Value} (hq : C q = some (8, 1, V)) (v0 : V 0 = .ref a) (hqa : ¬ q = a) (ha0 : ¬ a = 0) (hm : m ≤ 12)
    (hQ : ∀ U, (∀ j, ∃ x, U j = .long x) → Q (va_up C a (some (13, m, U)), n, s) none) : ∀ (j k : Nat) (U : Nat → Value), k + j = m → (∀ j, ∃ x, U j = .long x) → rs_X d yX9_init 17 [some (.ref q), some (.int (nI m)), some (.int (nI k))] [] (va_up C a (some (13, m, U)), n, s) Q := by
  intro j
  induction j with
  | zero =>
    intro k U hk hU
    have : k = m := by omega
    subst this
    rw [g_X9_init_17]
    simp (disch := omega) only [g_X9_init_18, g_X9_init_19, g_X9_init_22, g_X9_init_23, g_X9_init_26, g_X9_init_27, g_X9_init_30, g_X9_init_31, g_X9_init_32, g_X9_init_33, g_X9_init_36, g_X9_init_39, lk_X9_init, XI, Nat.reduceAdd, Nat.reduceEqDiff, not_false_eq_true, nI_T1, nI_T0, true_and, and_true, rw_up, vu_eq, vu_ne, hq, v0, nI_leS, Nat.le_refl, if_true]
    exact hQ U hU
  | succ j ih =>
    intro k U hk hU
    rw [g_X9_init_17]
    simp (disch := omega) only [g_X9_init_18, g_X9_init_19, g_X9_init_22, g_X9_init_23, g_X9_init_26, g_X9_init_27, g_X9_init_30, g_X9_init_31, g_X9_init_32, g_X9_init_33, g_X9_init_36, g_X9_init_39, lk_X9_init, XI, Nat.reduceAdd, Nat.reduceEqDiff, not_false_eq_true, nI_T1, nI_T0, true_and, and_true, rw_up, vu_eq, vu_ne, vu_vu, hq, v0, nI_leS, ha0, nI_cl, rs_in_t, nI_addS]
    rw [if_neg (by omega)]
    refine ih (k + 1) _ (by omega) (fun i => ?_)
    by_cases e : i = k
    · exact ⟨lN 1, by rw [e, vu_eq]⟩
    · rw [vu_ne _ _ e]
      exact hU i
theorem ini_X9 {q m : Nat} {V : Nat → Value} (hq : C q = some (8, 1, V)) (hqn : q < n) (hm : m ≤ 12)
    (hQ : ∀ C' U, C' q = some (8, 1, va_up V 0 (.ref n)) → C' n = some (13, m, U) → (∀ j, ∃ x, U j = .long x) → (∀ i, ¬ i = q → ¬ i = n → C' i = C i) → Q (C', n + 1, s + m) none) : rs_XM d yX9_init [.ref q, .int (nI m)] (C, n, s) Q := by
  have hm6 : m ≤ 65536 := by omega
  have hmx : (if nI m < nI 0 then nI 0 else nI m) = nI m := if_neg (by rw [nI_ltS (by omega) (by decide)]; omega)
  rw [em_X9_init]
  simp (disch := omega) only [g_X9_init_0, g_X9_init_1, g_X9_init_4, g_X9_init_5, g_X9_init_6, g_X9_init_7, g_X9_init_10, g_X9_init_12, g_X9_init_15, g_X9_init_16, lk_X9_init, XI, Nat.reduceAdd, Nat.reduceEqDiff, not_false_eq_true, nI_T1, nI_T0, true_and, and_true, rw_new, rw_up, vu_eq, vu_ne, hq, nI_cl, nI_lt0S, hm6, hmx]
  have e : ∀ (A : rs_C) (B : rs_C), va_up (va_up C n (some A)) q (some B) = va_up (va_up C q (some B)) n (some A) := by
    intro A B
    funext i
    unfold va_up
    by_cases h1 : i = q
    · rw [if_pos h1, if_neg (by omega), if_pos h1]
    · rw [if_neg h1, if_neg h1]
  rw [e]
  refine X9_in_l (n + 1) (s + m) d Q (C := va_up C q (some (8, 1, va_up V 0 (.ref n)))) (vu_eq _ _ _) (vu_eq _ _ _) (by omega) (by omega) hm (fun U hU => ?_) m 0 _ (by omega) (fun j => ⟨0, rfl⟩)
  refine hQ _ U ?_ (vu_eq _ _ _) hU (fun i h1 h2 => ?_)
  · rw [vu_ne _ _ (by omega), vu_eq]
  · rw [vu_ne _ _ h2, vu_ne _ _ h1]
theorem ini_X1 {q : Nat} {V0 : Nat → Value} (hq : C q = some (0, 8, V0)) (hqn : q < n)
    (hQ : ∀ C' V, C' q = some (0, 8, V) → C' n = some (12, 3, fun _ => .int 0) → C' (n + 1) = some (12, 3, fun _ => .int 0) → V 0 = .long (-1) → V 1 = .long (-1) → V 2 = .int (nI 0) → V 3 = .int (nI 0) → V 4 = .int (nI 0) → V 5 = .int (nI 0) → V 6 = .ref n → V 7 = .ref (n + 1) → (∀ i, ¬ i = q → ¬ i = n → ¬ i = n + 1 → C' i = C i) → Q (C', n + 2, s + 6) none) : rs_XM d yX1_init [.ref q] (C, n, s) Q := by
  rw [em_X1_init]
  simp (disch := omega) only [K_X1_init, lk_X1_init, XI, Nat.reduceAdd, Nat.reduceEqDiff, not_false_eq_true, nI_T1, nI_T0, true_and, and_true, rw_new, rw_up, vu_eq, vu_ne, hq, nI_cl, nI_lt0S, Nat.reduceLeDiff]
  refine hQ _ _ (vu_eq _ _ _) ?_ ?_ rfl rfl rfl rfl rfl rfl rfl rfl (fun i h1 h2 h3 => ?_)
  · rw [vu_ne _ _ (by omega), vu_ne _ _ (by omega), vu_ne _ _ (by omega), vu_eq]
    rfl
  · rw [vu_ne _ _ (by omega), vu_eq]
    rfl
  · rw [vu_ne _ _ h1, vu_ne _ _ h3, vu_ne _ _ h1, vu_ne _ _ h2, vu_ne _ _ h1, vu_ne _ _ h1, vu_ne _ _ h1, vu_ne _ _ h1, vu_ne _ _ h1, vu_ne _ _ h1]
end
def g0Ig : Ig := Ig.mk none none 0 0 0 []
def D0 : Dt := Dt.mk (fun _ => none) (fun _ => g0Ig) [] none
def iG (C : Nat → Option rs_C) (q : Nat) : Prop := ∃ V, C q = some (0, 8, V) ∧ C (q + 1) = some (12, 3, fun _ => .int 0) ∧ C (q + 1 + 1) = some (12, 3, fun _ => .int 0) ∧ V 0 = .long (-1) ∧ V 1 = .long (-1) ∧ V 2 = .int (nI 0) ∧ V 3 = .int (nI 0) ∧ V 4 = .int (nI 0) ∧ V 5 = .int (nI 0) ∧ V 6 = .ref (q + 1) ∧ V 7 = .ref (q + 1 + 1)
theorem iG_f {C C' : Nat → Option rs_C} {q : Nat} (h : iG C q) (e0 : C' q = C q) (e1 : C' (q + 1) = C (q + 1)) (e2 : C' (q + 1 + 1) = C (q + 1 + 1)) : iG C' q := by
  obtain ⟨V, h1, h2, h3, h4⟩ := h
  exact ⟨V, by rw [e0]; exact h1, by rw [e1]; exact h2, by rw [e2]; exact h3, h4⟩
theorem kn_42 : ∀ i, i < 42 → 1 < i → sk_kn i = none := by decide
theorem iG_c {C : Nat → Option rs_C} {q : Nat} (h : iG C q) (h1 : 1 < q) (h2 : q + 2 < 42) : cIg C 42 q g0Ig := by
  obtain ⟨V, b1, b2, b3, b4, b5, b6, b7, b8, b9, b10, b11⟩ := h
  exact ⟨V, q + 1, q + 1 + 1, fun _ => .int 0, fun _ => .int 0, ⟨by omega, kn_42 _ (by omega) (by omega), b1⟩, ⟨by omega, kn_42 _ (by omega) (by omega), b2⟩, ⟨by omega, kn_42 _ (by omega) (by omega), b3⟩, by omega, b4, b5, b6, b7, b8, b9, b10, b11, fun k p e => (by cases e)⟩
section
variable (d : Nat) (Q : rs_H → Option Value → Prop)
theorem X7_in_l {C0 : Nat → Option rs_C} {V2 : Nat → Value} (h2 : C0 2 = some (6, 5, V2)) (v1 : V2 1 = .ref 4) (s0 : Nat)
    (hQ : ∀ C', C' 4 = some (15, 12, uRow (fun i => some (6 + 3 * i)) 12) → (∀ i, i < 12 → iG C' (6 + 3 * i)) → (∀ i, i < 6 → ¬ i = 4 → C' i = C0 i) → Q (C', 42, s0 + 168) (some (.ref 2))) :
    ∀ (j k : Nat) (C : Nat → Option rs_C), k + j = 12 → C 4 = some (15, 12, uRow (fun i => some (6 + 3 * i)) k) → (∀ i, i < k → iG C (6 + 3 * i)) → (∀ i, i < 6 → ¬ i = 4 → C i = C0 i) → rs_X (d + 1) yX7_initial 10 [some (.ref 2), some (.int (nI k))] [] (C, 6 + 3 * k, s0 + 14 * k) Q := by
  intro j
  induction j with
  | zero =>
    intro k C hk a1 a2 a3
    have : k = 12 := by omega
    subst this
    rw [g_X7_initial_10]
    simp (disch := omega) only [g_X7_initial_11, g_X7_initial_13, g_X7_initial_16, g_X7_initial_17, g_X7_initial_18, g_X7_initial_21, g_X7_initial_22, g_X7_initial_25, g_X7_initial_28, g_X7_initial_31, g_X7_initial_34, g_X7_initial_35, lk_X7_initial, XI, Nat.reduceAdd, Nat.reduceEqDiff, not_false_eq_true, nI_T1, nI_T0, true_and, and_true, nI_leS, Nat.le_refl, if_true]
    exact hQ C a1 a2 a3
  | succ j ih =>
    intro k C hk a1 a2 a3
    have c2 : C 2 = some (6, 5, V2) := by rw [a3 2 (by decide) (by decide)]; exact h2
    rw [g_X7_initial_10]
    simp (disch := omega) only [g_X7_initial_11, g_X7_initial_13, g_X7_initial_16, g_X7_initial_17, g_X7_initial_18, g_X7_initial_21, g_X7_initial_22, lk_X7_initial, XI, Nat.reduceAdd, Nat.reduceEqDiff, not_false_eq_true, nI_T1, nI_T0, true_and, and_true, rw_new, nI_leS]
    rw [if_neg (by omega)]
    refine ini_X1 (C := va_up C (6 + 3 * k) _) (6 + 3 * k + 1) (s0 + 14 * k + 8) d _ (vu_eq _ _ _) (by omega) ?_
    intro C1 V b1 b2 b3 b4 b5 b6 b7 b8 b9 b10 b11 b12
    have p1 : ∀ i, i < 6 + 3 * k → C1 i = C i := fun i hi => by rw [b12 i (by omega) (by omega) (by omega), vu_ne _ _ (by omega)]
    have e2 : C1 2 = some (6, 5, V2) := by rw [p1 2 (by omega)]; exact c2
    have e4 : C1 4 = some (15, 12, uRow (fun i => some (6 + 3 * i)) k) := by rw [p1 4 (by omega)]; exact a1
    simp (disch := omega) only [g_X7_initial_25, lk_X7_initial, XI, Nat.reduceAdd, Nat.reduceEqDiff, not_false_eq_true, nI_T1, nI_T0, true_and, and_true, em_X7_putIngredient, g_X7_putIngredient_0, g_X7_putIngredient_1, g_X7_putIngredient_4, g_X7_putIngredient_5, g_X7_putIngredient_6, g_X7_putIngredient_9, g_X7_putIngredient_10, g_X7_putIngredient_13, g_X7_putIngredient_14, g_X7_putIngredient_17, g_X7_putIngredient_18, lk_X7_putIngredient, rw_up, e2, e4, v1, nI_leS, nI_lt0S, if_false]
    rw [if_neg (by omega)]
    rw [g_X7_putIngredient_19]
    simp (disch := omega) only [XI, Nat.reduceAdd, Nat.reduceEqDiff, not_false_eq_true, nI_T1, nI_T0, true_and, and_true, g_X7_putIngredient_20, lk_X7_putIngredient, e4, rw_up, nI_cl, rs_in_t]
    refine ⟨(rs_oa_r _ _ _).mpr ⟨_, b1, rfl⟩, ?_⟩
    simp (disch := omega) only [g_X7_initial_28, g_X7_initial_31, lk_X7_initial, XI, Nat.reduceAdd, Nat.reduceEqDiff, not_false_eq_true, nI_T1, nI_T0, true_and, and_true, nI_addS]
    have hu : va_up (uRow (fun i => some (6 + 3 * i)) k) k (.ref (6 + 3 * k)) = uRow (fun i => some (6 + 3 * i)) (k + 1) := uRow_s (fun i => some (6 + 3 * i)) k
    rw [hu, show 6 + 3 * k + 1 + 2 = 6 + 3 * (k + 1) by omega, show s0 + 14 * k + 8 + 6 = s0 + 14 * (k + 1) by omega]
    refine ih (k + 1) _ (by omega) (vu_eq _ _ _) (fun i hi => ?_) (fun i h6 h4 => ?_)
    · have v3 : ∀ z, ¬ z = 4 → va_up C1 4 (some (15, 12, uRow (fun i => some (6 + 3 * i)) (k + 1))) z = C1 z := fun z hz => vu_ne _ _ hz
      refine iG_f (C := C1) ?_ (v3 _ (by omega)) (v3 _ (by omega)) (v3 _ (by omega))
      by_cases e : i = k
      · subst e
        exact ⟨V, b1, b2, b3, b4, b5, b6, b7, b8, b9, b10, b11⟩
      · exact iG_f (a2 i (by omega)) (p1 _ (by omega)) (p1 _ (by omega)) (p1 _ (by omega))
    · rw [vu_ne _ _ h4, p1 i (by omega)]
      exact a3 i h6 h4
theorem ini_X7 {C : Nat → Option rs_C} (s : Nat) (hQ : ∀ C', (∀ C2, (∀ i, 1 < i → i < 42 → C2 i = C' i) → cSt C2 42 2 D0) → (∀ i, i < 2 → C' i = C i) → Q (C', 42, s + 199) (some (.ref 2))) : rs_XM (d + 1) yX7_initial [] (C, 2, s) Q := by
  rw [em_X7_initial]
  simp (disch := omega) only [g_X7_initial_0, g_X7_initial_3, g_X7_initial_4, lk_X7_initial, XI, Nat.reduceAdd, Nat.reduceEqDiff, not_false_eq_true, nI_T1, nI_T0, true_and, and_true, em_X7_init, K_X7_init, lk_X7_init, rw_new, rw_up, vu_eq, vu_ne, nI_cl, nI_lt0S, Nat.reduceLeDiff]
  simp (disch := omega) only [g_X7_initial_7, g_X7_initial_8, g_X7_initial_9, lk_X7_initial, XI, Nat.reduceAdd, Nat.reduceEqDiff, not_false_eq_true, nI_T1, nI_T0, true_and, and_true]
  generalize hC : va_up _ 2 _ = C1
  have e2 : C1 2 = some (6, 5, va_up (va_up (va_up (va_up (va_up (fun j => defaultValue (rs_ty 6 j)) 0 (.ref 3)) 1 (.ref 4)) 2 (.ref 5)) 3 (.int (-1))) 4 (.long (lN 1))) := by rw [← hC, vu_eq]
  have e3 : C1 3 = some (17, 8, fun _ => .null) := by rw [← hC]; rfl
  have e4 : C1 4 = some (15, 12, fun _ => .null) := by rw [← hC]; rfl
  have e5 : C1 5 = some (19, 6, fun _ => .null) := by rw [← hC]; rfl
  have e6 : ∀ i, i < 2 → C1 i = C i := fun i hi => by
    rw [← hC]
    simp (disch := omega) only [vu_ne]
  refine X7_in_l d Q e2 rfl (s + 31) (fun C' a1 a2 a3 => ?_) 12 0 C1 rfl e4 (fun i hi => absurd hi (Nat.not_lt_zero i)) (fun i _ _ => rfl)
  refine hQ C' (fun C2 hh => ?_) (fun i hi => by rw [a3 i (by omega) (by omega)]; exact e6 i hi)
  refine ⟨_, 3, 4, 5, fun _ => .null, _, fun _ => .null, ⟨by decide, by decide, (hh 2 (by decide) (by decide)).trans ((a3 2 (by decide) (by decide)).trans e2)⟩, ⟨by decide, by decide, (hh 3 (by decide) (by decide)).trans ((a3 3 (by decide) (by decide)).trans e3)⟩, ⟨by decide, by decide, (hh 4 (by decide) (by decide)).trans a1⟩, ⟨by decide, by decide, (hh 5 (by decide) (by decide)).trans ((a3 5 (by decide) (by decide)).trans e5)⟩, rfl, rfl, rfl, ⟨rfl, _, rfl⟩, fun r _ _ => rfl, fun r X _ e => (by cases e), fun i hi => ?_, fun k _ _ => rfl, fun k t _ e => (by cases e)⟩
  refine ⟨6 + 3 * i, ?_, iG_c (iG_f (a2 i hi) (hh _ (by omega) (by omega)) (hh _ (by omega) (by omega)) (hh _ (by omega) (by omega))) (by omega) (by omega)⟩
  unfold uRow
  rw [if_pos hi]
  rfl
end
