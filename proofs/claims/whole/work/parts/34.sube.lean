/-! the class's substitutions, all of them -/
theorem sbo1_ok {D : Dt} (hD : D.ok) {t : Sb} (ht : t.ok) {k : Nat} (hk : k < 6) {S T : Nat → Nat × Nat} (hS : stOk S) {A : Nat} (hA : A < 64) : stOk (sbo1 D k t S T A).2.1 ∧ (sbo1 D k t S T A).2.2.2 < 64 ∧ ((sbo1 D k t S T A).1 = 0 ∨ (sbo1 D k t S T A).1 = 5) := by
  have e1 : 2 ^ k < 2 ^ 6 := Nat.pow_lt_pow_right (by decide) hk
  have e2 : A ||| 2 ^ k < 2 ^ 6 := Nat.or_lt_two_pow (by omega) e1
  unfold sbo1
  split
  · cases hw : fr ((S t.x).1 - kep D t * (S t.x).2) (S t.x).2 with
    | none => exact ⟨hS, hA, Or.inl rfl⟩
    | some w =>
      dsimp only
      have hwF := fr_isF (hS t.x ht.1).2.1 hw
      have hfr : okO (fr t.up t.dn) := fun q e => fr_isF ht.2.2.2.2.2.1 e
      have hS1 := upS_ok hS t.x (isF_w (kep_le hD ht))
      cases ha : adO (S t.y) (omul (some w) (fr t.up t.dn)) with
      | none => exact ⟨hS1, e2, Or.inr rfl⟩
      | some p => exact ⟨upS_ok hS1 t.y (adO_ok (hS t.y ht.2.1) (omul_ok (okO_s hwF) hfr) p ha), e2, Or.inl rfl⟩
  · exact ⟨hS, hA, Or.inl rfl⟩
theorem sboL_c (D : Dt) (t : Sb) (ts : List Sb) (k : Nat) (S T : Nat → Nat × Nat) (A : Nat) : sboL D (t :: ts) k S T A = if (sbo1 D k t S T A).1 = 0 then sboL D ts (k + 1) (sbo1 D k t S T A).2.1 (sbo1 D k t S T A).2.2.1 (sbo1 D k t S T A).2.2.2 else sbo1 D k t S T A := rfl
theorem sboL_n (D : Dt) (k : Nat) (S T : Nat → Nat × Nat) (A : Nat) : sboL D [] k S T A = (0, S, T, A) := rfl
theorem jS_copy (J : Nat → Nat → Int64) (S : Nat → Nat × Nat) : (cpU (jS J 47 12 S) 49 0 12 fun i => jS J 47 12 S 47 i) = jS (jS J 47 12 S) 49 12 S := by
  funext a j
  show (if a = 49 ∧ 0 ≤ j ∧ j < 12 then jS J 47 12 S 47 j else jS J 47 12 S a j) = (if a = 49 ∧ 0 ≤ j ∧ j < 12 then pkF (S j) else jS J 47 12 S a j)
  by_cases h : a = 49 ∧ 0 ≤ j ∧ j < 12
  · rw [if_pos h, if_pos h, jS_at _ _ _ _ h.2.2]
  · rw [if_neg h, if_neg h]
section
variable (P : Nat → Option rs_C) (n s : Nat) (I : Nat → Nat → Int32) (J : Nat → Nat → Int64) (R : Nat → Nat → Option Nat) (d : Nat) (Q : rs_H → Option Value → Prop)
theorem su_copy_l : ∀ (m k : Nat), k + m = 12 → rs_X (d + 1) yX9_copyFrom 28 [some (.ref 48), some (.ref 46), some (.int (nI 12))] [] (sk_w P n s I (cpU J 49 0 12 fun i => J 47 i) R) Q →
    rs_X (d + 1) yX9_copyFrom 2 [some (.ref 48), some (.ref 46), some (.int (nI k))] [] (sk_w P n s I (cpU J 49 0 k fun i => J 47 i) R) Q := by
  intro m
  induction m with
  | zero =>
    intro k hk h
    have : k = 12 := by omega
    subst this
    rw [g_X9_copyFrom_2]
    simp (disch := omega) only [g_X9_copyFrom_3, g_X9_copyFrom_4, g_X9_copyFrom_7, g_X9_copyFrom_8, g_X9_copyFrom_11, g_X9_copyFrom_12, g_X9_copyFrom_15, g_X9_copyFrom_16, g_X9_copyFrom_17, g_X9_copyFrom_18, g_X9_copyFrom_21, g_X9_copyFrom_22, g_X9_copyFrom_25, lk_X9_copyFrom, XI, Nat.reduceAdd, Nat.reduceEqDiff, not_false_eq_true, nI_T1, nI_T0, true_and, and_true, WC, WV, WU, nI_leS, nI_addS, Nat.le_refl, if_true]
    exact h
  | succ m ih =>
    intro k hk h
    rw [g_X9_copyFrom_2]
    simp (disch := omega) only [g_X9_copyFrom_3, g_X9_copyFrom_4, g_X9_copyFrom_7, g_X9_copyFrom_8, g_X9_copyFrom_11, g_X9_copyFrom_12, g_X9_copyFrom_15, g_X9_copyFrom_16, g_X9_copyFrom_17, g_X9_copyFrom_18, g_X9_copyFrom_21, g_X9_copyFrom_22, g_X9_copyFrom_25, lk_X9_copyFrom, XI, Nat.reduceAdd, Nat.reduceEqDiff, not_false_eq_true, nI_T1, nI_T0, true_and, and_true, WC, WV, WU, nI_leS, nI_addS, nI_cl, rs_in_t, su_at_46]
    rw [if_neg (by omega), cpU_s J 49 0 k (fun i => J 47 i) (Nat.zero_le k) (cpU_ne _ _ _ _ _ _ (by decide))]
    exact ih (k + 1) (by omega) h
theorem su_copy : rs_XM (d + 1) yX9_copyFrom [.ref 48, .ref 46] (sk_w P n s I J R) Q ↔ Q (sk_w P n s I (cpU J 49 0 12 fun i => J 47 i) R) none := by
  refine rs_XM_iff ?_ Q
  rw [em_X9_copyFrom]
  simp (disch := omega) only [g_X9_copyFrom_0, g_X9_copyFrom_1, lk_X9_copyFrom, XI, Nat.reduceAdd, Nat.reduceEqDiff, not_false_eq_true, nI_T1, nI_T0, true_and, and_true, WC, WV, WU]
  have e := su_copy_l P n s I J R d
  have e2 := cpU_0 J 49 0 fun i => J 47 i
  rw [← e2]
  refine e _ 12 0 (by omega) ?_
  simp (disch := omega) only [g_X9_copyFrom_28, lk_X9_copyFrom, XI, Nat.reduceAdd, Nat.reduceEqDiff, not_false_eq_true, nI_T1, nI_T0, true_and, and_true, WC, WV, WU]
  rw [e2]
theorem s_replaceOne_n {b q k : Nat} {D : Dt} (hq : cSt P b q D) (hk : k < 6) (hs : D.sb[k]? = none) : rs_XM (d + 5) yX3_replaceOne [.ref 45, .ref q, .int (nI k)] (sk_w P n s I J R) Q ↔ Q (sk_w P n s I J R) (some (.int (nI 0))) := by
  rw [em_X3_replaceOne]
  simp (disch := omega) only [g_X3_replaceOne_0, g_X3_replaceOne_1, g_X3_replaceOne_2, g_X3_replaceOne_5, g_X3_replaceOne_6, g_X3_replaceOne_7, g_X3_replaceOne_10, g_X3_replaceOne_11, lk_X3_replaceOne, XI, Nat.reduceAdd, Nat.reduceEqDiff, not_false_eq_true, nI_T1, nI_T0, true_and, and_true, WC, WV, WU, g_substitutionAt_n n s _ _ R hq hk hs, k_St P n s _ _ R hq]
theorem X3_replace_l {b q : Nat} {D : Dt} (hq : cSt P b q D) (hD : D.ok) : ∀ (m k : Nat) (S T : Nat → Nat × Nat) (A : Nat), k + m = 6 → stOk S → A < 64 → (rs_X (d + 6) yX3_replace 25 [some (.ref 45), some (.ref q), some (.int (nI k))] [] (sk_w P n s (rs_u2 I 45 5 (nI A)) (jS (jS J 49 12 S) 53 6 T) R) Q ↔ Q (sk_w P n s (rs_u2 I 45 5 (nI (sboL D (D.sb.drop k) k S T A).2.2.2)) (jS (jS J 49 12 (sboL D (D.sb.drop k) k S T A).2.1) 53 6 (sboL D (D.sb.drop k) k S T A).2.2.1) R) (some (.int (nI (sboL D (D.sb.drop k) k S T A).1)))) := by
  intro m
  induction m with
  | zero =>
    intro k S T A hk hS hA
    have e : D.sb.drop k = [] := List.drop_eq_nil_iff.mpr (by have := hD.2.2.1; omega)
    rw [e, sboL_n, g_X3_replace_25]
    simp (disch := omega) only [g_X3_replace_26, g_X3_replace_28, g_X3_replace_31, g_X3_replace_32, g_X3_replace_33, g_X3_replace_34, g_X3_replace_37, g_X3_replace_40, g_X3_replace_41, g_X3_replace_42, g_X3_replace_45, g_X3_replace_48, g_X3_replace_49, lk_X3_replace, XI, Nat.reduceAdd, Nat.reduceEqDiff, not_false_eq_true, nI_T1, nI_T0, true_and, and_true, WC, WV, WU, nI_leS]
    rw [if_pos (by omega)]
  | succ m ih =>
    intro k S T A hk hS hA
    rw [g_X3_replace_25]
    simp (disch := omega) only [g_X3_replace_26, g_X3_replace_28, g_X3_replace_31, g_X3_replace_32, g_X3_replace_33, g_X3_replace_34, lk_X3_replace, XI, Nat.reduceAdd, Nat.reduceEqDiff, not_false_eq_true, nI_T1, nI_T0, true_and, and_true, WC, WV, WU, nI_leS]
    rw [if_neg (by omega)]
    cases hs : D.sb[k]? with
    | none =>
      have hl : D.sb.length ≤ k := List.getElem?_eq_none_iff.mp hs
      have e : D.sb.drop k = [] := List.drop_eq_nil_iff.mpr hl
      have e2 : D.sb.drop (k + 1) = [] := List.drop_eq_nil_iff.mpr (by omega)
      have h := ih (k + 1) S T A (by omega) hS hA
      rw [e2, sboL_n] at h
      simp (disch := omega) only [s_replaceOne_n P n s _ _ R _ _ hq (show k < 6 by omega) hs, g_X3_replace_37, g_X3_replace_40, g_X3_replace_41, g_X3_replace_42, g_X3_replace_45, lk_X3_replace, XI, Nat.reduceAdd, Nat.reduceEqDiff, not_false_eq_true, nI_T1, nI_T0, true_and, and_true, WC, WV, WU, nI_addS, nI_00, if_true]
      rw [e, sboL_n]
      exact h
    | some t =>
      have hk6 : k < 6 := by omega
      have e : D.sb.drop k = t :: D.sb.drop (k + 1) := by
        obtain ⟨h1, h2⟩ := List.getElem?_eq_some_iff.mp hs
        rw [← h2]
        exact List.drop_eq_getElem_cons h1
      rw [s_replaceOne P n s I J R d _ hq hD hk6 hs hS hA, e, sboL_c]
      have ok := sbo1_ok hD (hD.2.2.2.1 k t hs) hk6 (T := T) hS hA
      generalize sbo1 D k t S T A = z at ok
      obtain ⟨z1, z2, z3, z4⟩ := z
      have o3 : z1 = 0 ∨ z1 = 5 := ok.2.2
      rcases o3 with o | o
      · subst o
        have h := ih (k + 1) z2 z3 z4 (by omega) ok.1 ok.2.1
        simp (disch := omega) only [g_X3_replace_37, g_X3_replace_40, g_X3_replace_41, g_X3_replace_42, g_X3_replace_45, lk_X3_replace, XI, Nat.reduceAdd, Nat.reduceEqDiff, not_false_eq_true, nI_T1, nI_T0, true_and, and_true, WC, WV, WU, nI_addS, nI_00, if_true]
        exact h
      · subst o
        simp (disch := omega) only [g_X3_replace_37, g_X3_replace_40, g_X3_replace_41, g_X3_replace_42, g_X3_replace_45, lk_X3_replace, XI, Nat.reduceAdd, Nat.reduceEqDiff, not_false_eq_true, nI_T1, nI_T0, true_and, and_true, WC, WV, WU, nI_eq0S, Nat.reduceEqDiff, if_false]
/-- the substitutions, over what was found -/
def rpl (D : Dt) (S : Nat → Nat × Nat) : Nat × (Nat → Nat × Nat) × (Nat → Nat × Nat) × Nat := sboL D D.sb 0 S S00 0
theorem s_replace {b q : Nat} {D : Dt} (hq : cSt P b q D) (hD : D.ok) {S : Nat → Nat × Nat} (hS : stOk S) : rs_XM (d + 6) yX3_replace [.ref 45, .ref q] (sk_w P n s I (jS J 47 12 S) R) Q ↔ Q (sk_w P n s (rs_u2 I 45 5 (nI (rpl D S).2.2.2)) (jS (jS (jS J 47 12 S) 49 12 (rpl D S).2.1) 53 6 (rpl D S).2.2.1) R) (some (.int (nI (rpl D S).1))) := by
  rw [em_X3_replace]
  have e0 : ∀ J, (cpU J 53 0 6 fun _ => pkF (0, 1)) = jS J 53 6 S00 := fun _ => rfl
  simp (disch := omega) only [g_X3_replace_0, g_X3_replace_1, g_X3_replace_4, g_X3_replace_5, g_X3_replace_8, g_X3_replace_11, g_X3_replace_12, g_X3_replace_15, g_X3_replace_18, g_X3_replace_19, g_X3_replace_20, g_X3_replace_23, g_X3_replace_24, lk_X3_replace, XI, Nat.reduceAdd, Nat.reduceEqDiff, not_false_eq_true, nI_T1, nI_T0, true_and, and_true, WC, WV, WU, su_copy, jS_copy, su_clear_52, e0]
  have h := X3_replace_l P n s I (jS J 47 12 S) R d Q hq hD 6 0 S S00 0 rfl hS (by decide)
  exact h
end
