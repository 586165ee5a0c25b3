/-! the class's findPlan -/
section
variable (P : Nat → Option rs_C) (n s : Nat) (I : Nat → Nat → Int32) (J : Nat → Nat → Int64) (R : Nat → Nat → Option Nat) (d : Nat) (Q : rs_H → Option Value → Prop)
theorem s_findPlan_n {b q : Nat} {D : Dt} (hq : cSt P b q D) (hR : R 1 0 = some q) (hp : D.pl = none) : rs_XM (d + 23) yX11_findPlan [.ref 1] (sk_w P n s I J R) Q ↔ Q (sk_w P n s I J R) (some (.int (nI 0))) := by
  rw [em_X11_findPlan]
  simp (disch := omega) only [K_X11_findPlan, lk_X11_findPlan, XI, Nat.reduceAdd, Nat.reduceEqDiff, not_false_eq_true, nI_T1, nI_T0, true_and, and_true, WC, WV, WU, hR, va_rf, k_St P n s _ _ R hq, g_hasPlan_n n s _ _ R _ _ hq hp, nI_00, if_true, true_or]
theorem s_findPlan_1 {b q : Nat} {D : Dt} (hq : cSt P b q D) (hD : D.ok) (hR : R 1 0 = some q) {p : Nat × (Nat × Nat)} (hp : D.pl = some p) (hy : ¬ (fnd D p.1 p.2).1 = 0) : rs_XM (d + 23) yX11_findPlan [.ref 1] (sk_w P n s I J R) Q ↔ Q (sk_w P n s (rs_u2 (rs_u2 I 45 6 (nI (fnd D p.1 p.2).2.2)) 1 4 (nI (fnd D p.1 p.2).1)) (jS J 47 12 (fnd D p.1 p.2).2.1) R) (some (.int (nI 0))) := by
  obtain ⟨p8, pF, p1⟩ := hD.2.2.2.2 p.1 p.2 hp
  have ok := fnd_ok hD p.1 pF
  have o1 := ok.1
  rw [em_X11_findPlan]
  simp (disch := omega) only [K_X11_findPlan, lk_X11_findPlan, XI, Nat.reduceAdd, Nat.reduceEqDiff, not_false_eq_true, nI_T1, nI_T0, true_and, and_true, WC, WV, WU, hR, va_rf, k_St P n s _ _ R hq, g_hasPlan_s n s _ _ R _ _ hq hp p8, g_planRecipe n s _ _ R _ _ hq hp, g_planFactor n s _ _ R _ _ hq hp, s_find P n s _ _ R _ _ hq hD p8 pF, s_X11_keepReason, nI_eq0S, Nat.succ_ne_zero, if_false, rs_b_0, hy, not_false_eq_true, if_true, true_or]
theorem sboL_ok {D : Dt} (hD : D.ok) : ∀ (m k : Nat) (S T : Nat → Nat × Nat) (A : Nat), k + m = 6 → stOk S → A < 64 → stOk (sboL D (D.sb.drop k) k S T A).2.1 ∧ ((sboL D (D.sb.drop k) k S T A).1 = 0 ∨ (sboL D (D.sb.drop k) k S T A).1 = 5) := by
  intro m
  induction m with
  | zero =>
    intro k S T A hk hS hA
    have e : D.sb.drop k = [] := List.drop_eq_nil_iff.mpr (by have := hD.2.2.1; omega)
    rw [e, sboL_n]
    exact ⟨hS, Or.inl rfl⟩
  | succ m ih =>
    intro k S T A hk hS hA
    cases hs : D.sb[k]? with
    | none =>
      have e : D.sb.drop k = [] := List.drop_eq_nil_iff.mpr (List.getElem?_eq_none_iff.mp hs)
      rw [e, sboL_n]
      exact ⟨hS, Or.inl rfl⟩
    | some t =>
      have e : D.sb.drop k = t :: D.sb.drop (k + 1) := by
        obtain ⟨h1, h2⟩ := List.getElem?_eq_some_iff.mp hs
        rw [← h2]
        exact List.drop_eq_getElem_cons h1
      rw [e, sboL_c]
      have ok := sbo1_ok hD (hD.2.2.2.1 k t hs) (show k < 6 by omega) (T := T) hS hA
      split
      · exact ih (k + 1) _ _ _ (by omega) ok.1 ok.2.1
      · exact ⟨ok.1, ok.2.2⟩
theorem rpl_ok {D : Dt} (hD : D.ok) {S : Nat → Nat × Nat} (hS : stOk S) : stOk (rpl D S).2.1 ∧ ((rpl D S).1 = 0 ∨ (rpl D S).1 = 5) := sboL_ok hD 6 0 S S00 0 rfl hS (by decide)
theorem s_findPlan_2 {b q : Nat} {D : Dt} (hq : cSt P b q D) (hD : D.ok) (hR : R 1 0 = some q) {p : Nat × (Nat × Nat)} (hp : D.pl = some p) (hy : (fnd D p.1 p.2).1 = 0) (hz : ¬ (rpl D (fnd D p.1 p.2).2.1).1 = 0) : rs_XM (d + 23) yX11_findPlan [.ref 1] (sk_w P n s I J R) Q ↔ Q (sk_w P n s (rs_u2 (rs_u2 (rs_u2 I 45 6 (nI (fnd D p.1 p.2).2.2)) 45 5 (nI (rpl D (fnd D p.1 p.2).2.1).2.2.2)) 1 4 (nI (rpl D (fnd D p.1 p.2).2.1).1)) (jS (jS (jS J 47 12 (fnd D p.1 p.2).2.1) 49 12 (rpl D (fnd D p.1 p.2).2.1).2.1) 53 6 (rpl D (fnd D p.1 p.2).2.1).2.2.1) R) (some (.int (nI 0))) := by
  obtain ⟨p8, pF, p1⟩ := hD.2.2.2.2 p.1 p.2 hp
  have ok := fnd_ok hD p.1 pF
  have o1 := ok.1
  have o2 := (rpl_ok hD ok.2.1).2
  rw [em_X11_findPlan]
  simp (disch := omega) only [K_X11_findPlan, lk_X11_findPlan, XI, Nat.reduceAdd, Nat.reduceEqDiff, not_false_eq_true, nI_T1, nI_T0, true_and, and_true, WC, WV, WU, hR, va_rf, k_St P n s _ _ R hq, g_hasPlan_s n s _ _ R _ _ hq hp p8, g_planRecipe n s _ _ R _ _ hq hp, g_planFactor n s _ _ R _ _ hq hp, s_find P n s _ _ R _ _ hq hD p8 pF, s_X11_keepReason, s_replace P n s _ J R _ _ hq hD ok.2.1, nI_eq0S, Nat.succ_ne_zero, if_false, rs_b_0, hy, hz, not_true_eq_false, not_false_eq_true, if_true, true_or]
theorem s_findPlan_3 {b q : Nat} {D : Dt} (hq : cSt P b q D) (hD : D.ok) (hR : R 1 0 = some q) {p : Nat × (Nat × Nat)} (hp : D.pl = some p) (hy : (fnd D p.1 p.2).1 = 0) (hz : (rpl D (fnd D p.1 p.2).2.1).1 = 0) : rs_XM (d + 23) yX11_findPlan [.ref 1] (sk_w P n s I J R) Q ↔ Q (sk_w P n s (rs_u2 (rs_u2 I 45 6 (nI (fnd D p.1 p.2).2.2)) 45 5 (nI (rpl D (fnd D p.1 p.2).2.1).2.2.2)) (jS (jS (jS J 47 12 (fnd D p.1 p.2).2.1) 49 12 (rpl D (fnd D p.1 p.2).2.1).2.1) 53 6 (rpl D (fnd D p.1 p.2).2.1).2.2.1) R) (some (.int (nI 1))) := by
  obtain ⟨p8, pF, p1⟩ := hD.2.2.2.2 p.1 p.2 hp
  have ok := fnd_ok hD p.1 pF
  rw [em_X11_findPlan]
  simp (disch := omega) only [K_X11_findPlan, lk_X11_findPlan, XI, Nat.reduceAdd, Nat.reduceEqDiff, not_false_eq_true, nI_T1, nI_T0, true_and, and_true, WC, WV, WU, hR, va_rf, k_St P n s _ _ R hq, g_hasPlan_s n s _ _ R _ _ hq hp p8, g_planRecipe n s _ _ R _ _ hq hp, g_planFactor n s _ _ R _ _ hq hp, s_find P n s _ _ R _ _ hq hD p8 pF, s_X11_keepReason, s_replace P n s _ J R _ _ hq hD ok.2.1, nI_eq0S, Nat.succ_ne_zero, if_false, rs_b_0, hy, hz, not_true_eq_false, not_false_eq_true, if_true, true_or, nI_11, or_true]
end
