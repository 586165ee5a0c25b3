/-! the reference finds again -/
theorem bit_and0 {a k : Nat} (ha : a < 2147483648) (hk : k < 32) : (nI a >>> (nI k &&& 31) &&& nI 1 = 0) ↔ ¬ a.testBit k = true := by
  have h1 : a / 2 ^ k ≤ a := Nat.div_le_self _ _
  have h2 : a / 2 ^ k % 2 < 2 := Nat.mod_lt _ (by decide)
  rw [bt_shr ha hk, bt_and1 (show a / 2 ^ k < 2147483648 by omega), nI_eq0S (by omega), bt_tb]
def frK (D : Dt) (W x k : Nat) : Bool := W.testBit x && !(dIn D W k).testBit x
theorem frK_0 (D : Dt) (W x : Nat) : frK D W x 0 = W.testBit x := by
  have e : (dIn D W 0).testBit x = false := Nat.zero_testBit x
  unfold frK
  rw [e]
  exact Bool.and_true _
theorem frK_s (D : Dt) (W x k : Nat) : frK D W x (k + 1) = if W.testBit k = true then (frK D W x k && !(diR D k).testBit x) else frK D W x k := by
  unfold frK
  rw [dIn_s]
  split
  · rw [Nat.testBit_or, Bool.not_or, Bool.and_assoc]
  · rfl
theorem frK_f {D : Dt} {W x k : Nat} (h : frK D W x k = false) : ∀ m, frK D W x (k + m) = false
  | 0 => h
  | m + 1 => by
    rw [← Nat.add_assoc, frK_s, frK_f h m]
    split <;> rfl
def aA (J J' : Nat → Nat → Int64) : Prop := ∀ q j, ¬ (q = 61 ∧ (j = 6 ∨ j = 7)) → ¬ q = 67 → ¬ q = 68 → ¬ q = 82 → ¬ q = 83 → J' q j = J q j
theorem aA_r (J : Nat → Nat → Int64) : aA J J := fun _ _ _ _ _ _ _ => rfl
theorem aA_t {J J' J2 : Nat → Nat → Int64} (h : aA J J') (h2 : aA J' J2) : aA J J2 := fun q j a b c e f => (h2 q j a b c e f).trans (h q j a b c e f)
theorem aA_R {J J' : Nat → Nat → Int64} (h : aA J J') : fR J J' := fun q j a => h q j (by omega) (by omega) (by omega) (by omega) (by omega)
def AS (I : Nat → Nat → Int32) (J : Nat → Nat → Int64) (z : (Nat → Nat × Nat) × (Nat → Nat × Nat)) : Prop := I 61 8 = nI 0 ∧ mS J 67 68 12 z.2 ∧ mS J 82 83 8 z.1
section
variable (P : Nat → Option rs_C) (n s : Nat) (I : Nat → Nat → Int32) (J : Nat → Nat → Int64) (R : Nat → Nat → Option Nat) (d : Nat) (Q : rs_H → Option Value → Prop)
theorem X12_next_i {D : Dt} (hM : mDt (I 62) D) (hD : D.ok) {W : Nat} (hW : W < 256) {x : Nat} (hx : x < 8) : ∀ (m k : Nat), k + m = 8 → (∀ z4, rs_X (d + 2) yX12_nextOf 71 [some (.ref 61), some (.int (nI W)), some (.int (nI x)), some (.int (rs_b (frB D W x = true))), z4] [] (sk_w P n s I J R) Q) → rs_X (d + 2) yX12_nextOf 26 [some (.ref 61), some (.int (nI W)), some (.int (nI x)), some (.int (rs_b (frK D W x k = true))), some (.int (nI k))] [] (sk_w P n s I J R) Q := by
  intro m
  induction m with
  | zero =>
    intro k hk h
    have : k = 8 := by omega
    subst this
    rw [g_X12_nextOf_26]
    simp (disch := omega) only [g_X12_nextOf_28, g_X12_nextOf_30, lk_X12_nextOf, XI, Nat.reduceAdd, Nat.reduceEqDiff, not_false_eq_true, nI_T1, nI_T0, true_and, and_true, WC, WV, WU, nI_leS, Nat.le_refl, if_true]
    exact h _
  | succ m ih =>
    intro k hk h
    have hd8 := diR_le hD k
    have h2 := ih (k + 1) (by omega) h
    rw [frK_s] at h2
    rw [g_X12_nextOf_26]
    by_cases e0 : frK D W x k = true
    · simp (disch := omega) only [g_X12_nextOf_28, g_X12_nextOf_30, g_X12_nextOf_33, g_X12_nextOf_34, g_X12_nextOf_37, g_X12_nextOf_38, g_X12_nextOf_40, g_X12_nextOf_41, g_X12_nextOf_42, g_X12_nextOf_43, lk_X12_nextOf, XI, Nat.reduceAdd, Nat.reduceEqDiff, not_false_eq_true, nI_T1, nI_T0, true_and, and_true, WC, WV, WU, rs_b_0, rs_b_ok2, true_or, or_true, Classical.not_not, not_true_eq_false, if_true, if_false, reduceCtorEq, nI_leS, e0, rs_b_0, not_true_eq_false, if_false, bit_and0]
      rw [if_neg (by omega)]
      by_cases e1 : W.testBit k = true
      · rw [if_pos e1, e0, Bool.true_and] at h2
        simp (disch := omega) only [g_X12_nextOf_46, g_X12_nextOf_47, g_X12_nextOf_49, g_X12_nextOf_52, g_X12_nextOf_53, g_X12_nextOf_54, g_X12_nextOf_55, g_X12_nextOf_56, g_X12_nextOf_59, g_X12_nextOf_60, g_X12_nextOf_63, g_X12_nextOf_64, g_X12_nextOf_65, g_X12_nextOf_68, lk_X12_nextOf, XI, Nat.reduceAdd, Nat.reduceEqDiff, not_false_eq_true, nI_T1, nI_T0, true_and, and_true, WC, WV, WU, rs_b_0, rs_b_ok2, true_or, or_true, Classical.not_not, not_true_eq_false, if_true, if_false, reduceCtorEq, e1, not_true_eq_false, if_false, s_direct P n s I J R _ _ hM hD, bit_and0, nI_addS]
        by_cases e2 : (diR D k).testBit x = true
        · rw [e2] at h2
          simp only [e2, not_true_eq_false, not_false_eq_true, if_true, if_false]
          exact h2
        · have e3 : (diR D k).testBit x = false := by
            cases hq : (diR D k).testBit x with
            | true => exact absurd hq e2
            | false => rfl
          rw [e3] at h2
          simp only [e2, not_true_eq_false, not_false_eq_true, if_true, if_false]
          exact h2
      · rw [if_neg e1, e0] at h2
        simp (disch := omega) only [g_X12_nextOf_59, g_X12_nextOf_60, g_X12_nextOf_63, g_X12_nextOf_64, g_X12_nextOf_65, g_X12_nextOf_68, lk_X12_nextOf, XI, Nat.reduceAdd, Nat.reduceEqDiff, not_false_eq_true, nI_T1, nI_T0, true_and, and_true, WC, WV, WU, rs_b_0, rs_b_ok2, true_or, or_true, Classical.not_not, not_true_eq_false, if_true, if_false, reduceCtorEq, e1, not_false_eq_true, if_true, nI_addS]
        exact h2
    · have e1 : frK D W x k = false := by
        cases hq : frK D W x k with
        | true => exact absurd hq e0
        | false => rfl
      have e2 : frB D W x = false := by
        have := frK_f e1 (8 - k)
        rw [show k + (8 - k) = 8 by omega] at this
        exact this
      rw [e2] at h
      rw [e1]
      simp (disch := omega) only [g_X12_nextOf_28, g_X12_nextOf_30, g_X12_nextOf_33, g_X12_nextOf_34, lk_X12_nextOf, XI, Nat.reduceAdd, Nat.reduceEqDiff, not_false_eq_true, nI_T1, nI_T0, true_and, and_true, WC, WV, WU, nI_leS, rs_b_0, Bool.false_eq_true, not_false_eq_true, if_true]
      rw [if_neg (by omega)]
      exact h _
theorem X12_next_o {D : Dt} (hM : mDt (I 62) D) (hD : D.ok) {W : Nat} (hW : W < 256) : ∀ (m k : Nat) (z3 z4 : Option Value), k + m = 8 → loF (frB D W) m k < 8 → Q (sk_w P n s I J R) (some (.int (nI (loF (frB D W) m k)))) → rs_X (d + 2) yX12_nextOf 2 [some (.ref 61), some (.int (nI W)), some (.int (nI k)), z3, z4] [] (sk_w P n s I J R) Q := by
  intro m
  induction m with
  | zero =>
    intro k z3 z4 hk h hQ
    have h : k < 8 := h
    omega
  | succ m ih =>
    intro k z3 z4 hk h hQ
    rw [loF_s] at h hQ
    rw [g_X12_nextOf_2]
    have go := X12_next_i P n s I J R d Q hM hD hW (show k < 8 by omega) 8 0 rfl (fun z4 => by
      simp (disch := omega) only [g_X12_nextOf_71, g_X12_nextOf_72, g_X12_nextOf_75, g_X12_nextOf_76, g_X12_nextOf_77, g_X12_nextOf_80, lk_X12_nextOf, XI, Nat.reduceAdd, Nat.reduceEqDiff, not_false_eq_true, nI_T1, nI_T0, true_and, and_true, WC, WV, WU, rs_b_0, nI_addS]
      by_cases e : frB D W k = true
      · rw [if_pos e] at hQ
        simp only [e, not_true_eq_false, if_false]
        exact hQ
      · rw [if_neg e] at h hQ
        simp only [e, not_false_eq_true, if_true, Bool.false_eq_true]
        exact ih (k + 1) _ _ (by omega) h hQ)
    rw [frK_0] at go
    simp (disch := omega) only [g_X12_nextOf_3, g_X12_nextOf_5, g_X12_nextOf_8, g_X12_nextOf_9, g_X12_nextOf_10, g_X12_nextOf_11, g_X12_nextOf_12, g_X12_nextOf_13, g_X12_nextOf_14, g_X12_nextOf_17, g_X12_nextOf_18, g_X12_nextOf_21, g_X12_nextOf_22, g_X12_nextOf_23, g_X12_nextOf_24, lk_X12_nextOf, XI, Nat.reduceAdd, Nat.reduceEqDiff, not_false_eq_true, nI_T1, nI_T0, true_and, and_true, WC, WV, WU, nI_leS, bit_and1]
    rw [if_neg (by omega)]
    by_cases e : W.testBit k = true
    · rw [e] at go
      simp only [e, not_true_eq_false, if_false]
      exact go
    · have e1 : W.testBit k = false := by
        cases hq : W.testBit k with
        | true => exact absurd hq e
        | false => rfl
      rw [e1] at go
      simp only [e1, Bool.false_eq_true, not_false_eq_true, if_true]
      exact go
theorem s_nextOf {D : Dt} (hM : mDt (I 62) D) (hD : D.ok) {W : Nat} (hW : W < 256) (hn : nxD D W < 8) (hQ : Q (sk_w P n s I J R) (some (.int (nI (nxD D W))))) : rs_XM (d + 2) yX12_nextOf [.ref 61, .int (nI W)] (sk_w P n s I J R) Q := by
  rw [em_X12_nextOf]
  simp (disch := omega) only [g_X12_nextOf_0, g_X12_nextOf_1, lk_X12_nextOf, XI, Nat.reduceAdd, Nat.reduceEqDiff, not_false_eq_true, nI_T1, nI_T0, true_and, and_true, WC, WV, WU]
  exact X12_next_o P n s I J R d Q hM hD hW 8 0 none none rfl hn hQ
end
