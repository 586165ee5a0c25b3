/-! the class finds what the plan needs -/
section
variable {P : Nat → Option rs_C} {b : Nat} (n s : Nat) (I : Nat → Nat → Int32) (J : Nat → Nat → Int64) (R : Nat → Nat → Option Nat) (d : Nat) (Q : rs_H → Option Value → Prop)
theorem g_hasPlan_n {q : Nat} {D : Dt} (h : cSt P b q D) (hp : D.pl = none) : rs_XM d yX7_hasPlan [.ref q] (sk_w P n s I J R) Q ↔ Q (sk_w P n s I J R) (some (.int (nI 0))) := by
  obtain ⟨V, a, c, e, Ua, Uc, Ue, h1, h2, h3, h4, h5, h6, h7, h8, h9⟩ := h
  rw [hp] at h8
  have h8 : V 3 = .int (-1) ∧ ∃ x, V 4 = .long x := h8
  rw [em_X7_hasPlan]
  simp (disch := omega) only [K_X7_hasPlan, lk_X7_hasPlan, XI, Nat.reduceAdd, Nat.reduceEqDiff, not_false_eq_true, nI_T1, nI_T0, true_and, and_true, WC, WV, WU, sk_cP n s I J R h1, h8.1, if_true]
theorem nI_m1 {a : Nat} (h : a < 2147483648) : (nI a = -1) ↔ False := ⟨fun z => nI_pos (n := a) h (by rw [z]; decide), fun z => z.elim⟩
theorem g_hasPlan_s {q : Nat} {D : Dt} (h : cSt P b q D) {p : Nat × (Nat × Nat)} (hp : D.pl = some p) (h8p : p.1 < 8) : rs_XM d yX7_hasPlan [.ref q] (sk_w P n s I J R) Q ↔ Q (sk_w P n s I J R) (some (.int (nI 1))) := by
  obtain ⟨V, a, c, e, Ua, Uc, Ue, h1, h2, h3, h4, h5, h6, h7, h8, h9⟩ := h
  rw [hp] at h8
  have h8 : V 3 = .int (nI p.1) ∧ V 4 = .long (pkF p.2) := h8
  rw [em_X7_hasPlan]
  simp (disch := omega) only [K_X7_hasPlan, lk_X7_hasPlan, XI, Nat.reduceAdd, Nat.reduceEqDiff, not_false_eq_true, nI_T1, nI_T0, true_and, and_true, WC, WV, WU, sk_cP n s I J R h1, h8.1, nI_m1, if_false]
theorem g_planRecipe {q : Nat} {D : Dt} (h : cSt P b q D) {p : Nat × (Nat × Nat)} (hp : D.pl = some p) : rs_XM d yX7_planRecipe [.ref q] (sk_w P n s I J R) Q ↔ Q (sk_w P n s I J R) (some (.int (nI p.1))) := by
  obtain ⟨V, a, c, e, Ua, Uc, Ue, h1, h2, h3, h4, h5, h6, h7, h8, h9⟩ := h
  rw [hp] at h8
  have h8 : V 3 = .int (nI p.1) ∧ V 4 = .long (pkF p.2) := h8
  rw [em_X7_planRecipe]
  simp (disch := omega) only [K_X7_planRecipe, lk_X7_planRecipe, XI, Nat.reduceAdd, Nat.reduceEqDiff, not_false_eq_true, nI_T1, nI_T0, true_and, and_true, WC, WV, WU, sk_cP n s I J R h1, h8.1]
theorem g_planFactor {q : Nat} {D : Dt} (h : cSt P b q D) {p : Nat × (Nat × Nat)} (hp : D.pl = some p) : rs_XM d yX7_planFactor [.ref q] (sk_w P n s I J R) Q ↔ Q (sk_w P n s I J R) (some (.long (pkF p.2))) := by
  obtain ⟨V, a, c, e, Ua, Uc, Ue, h1, h2, h3, h4, h5, h6, h7, h8, h9⟩ := h
  rw [hp] at h8
  have h8 : V 3 = .int (nI p.1) ∧ V 4 = .long (pkF p.2) := h8
  rw [em_X7_planFactor]
  simp (disch := omega) only [K_X7_planFactor, lk_X7_planFactor, XI, Nat.reduceAdd, Nat.reduceEqDiff, not_false_eq_true, nI_T1, nI_T0, true_and, and_true, WC, WV, WU, sk_cP n s I J R h1, h8.2]
end
