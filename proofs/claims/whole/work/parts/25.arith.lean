/-! the reference's own fractions -/
section
variable (d : Nat) (P : Nat → Option rs_C) (n s : Nat) (I : Nat → Nat → Int32) (J : Nat → Nat → Int64) (R : Nat → Nat → Option Nat) (Q : rs_H → Option Value → Prop)
theorem X12_reduce_loop (w : rs_H) (x y : Int64) : ∀ (k a b : Nat), a < 2 ^ 63 → b < 2 ^ 63 → (eu k a b).2 = 0 → (∀ (z9 z10 : Option Value), rs_X d yX12_reduce 31 [some (.ref 61), some (.long x), none, some (.long y), none, some (.long (lN (eu k a b).1)), none, some (.long (lN 0)), none, z9, z10] [] w Q) →
    ∀ (z9 z10 : Option Value), rs_X d yX12_reduce 6 [some (.ref 61), some (.long x), none, some (.long y), none, some (.long (lN a)), none, some (.long (lN b)), none, z9, z10] [] w Q := by
  intro k
  induction k with
  | zero =>
    intro a b ha hb h0 h z9 z10
    have hb0 : b = 0 := h0
    subst hb0
    rw [g_X12_reduce_6]
    simp only [g_X12_reduce_8, g_X12_reduce_9, g_X12_reduce_10, g_X12_reduce_13, g_X12_reduce_15, g_X12_reduce_17, g_X12_reduce_18, g_X12_reduce_20, g_X12_reduce_22, g_X12_reduce_24, g_X12_reduce_26, g_X12_reduce_28, lk_X12_reduce, XI, Nat.reduceAdd, Nat.reduceEqDiff, not_false_eq_true, nI_T1, nI_T0, true_and, and_true, lg_cmp_eq, if_true]
    exact h _ _
  | succ k ih =>
    intro a b ha hb h0 h z9 z10
    rw [g_X12_reduce_6]
    simp only [g_X12_reduce_8, g_X12_reduce_9, g_X12_reduce_10, g_X12_reduce_13, g_X12_reduce_15, g_X12_reduce_17, g_X12_reduce_18, g_X12_reduce_20, g_X12_reduce_22, g_X12_reduce_24, g_X12_reduce_26, g_X12_reduce_28, lk_X12_reduce, XI, Nat.reduceAdd, Nat.reduceEqDiff, not_false_eq_true, nI_T1, nI_T0, true_and, and_true, lg_cmp_eq]
    by_cases hz : b = 0
    · subst hz
      rw [if_pos rfl]
      rw [eu_z] at h
      exact h _ _
    · have hz' : ¬ lN b = lN 0 := fun z => hz ((pk_lEQ hb (by decide)).mp z)
      rw [if_neg hz']
      refine ⟨hz', ?_⟩
      rw [pk_lRem ha (Nat.pos_of_ne_zero hz) hb]
      rw [eu_s hz] at h h0
      exact ih b (a % b) hb (Nat.lt_of_le_of_lt (Nat.mod_le _ _) ha) h0 h _ _
def grt (g a b : Nat) : Nat := if fr a b = none then 1 else g
theorem nI_or0 (x : Int32) : x ||| nI 0 = x := by
  rw [nI_0]; exact Int32.or_zero
theorem nI_or1 {g : Nat} (h : g ≤ 1) : nI g ||| nI 1 = nI 1 := by
  rcases Nat.le_one_iff_eq_zero_or_eq_one.mp h with e | e <;> subst e <;> decide
theorem nI_b1 {g : Nat} (h : g ≤ 1) : (nI g = 0 ∨ nI g = 1) ↔ True := by
  rcases Nat.le_one_iff_eq_zero_or_eq_one.mp h with e | e <;> subst e <;> decide
theorem s_X12_reduce {g a b : Nat} (hg : g ≤ 1) (hI : I 61 8 = nI g) (ha : a < 2 ^ 63) (hb1 : 1 ≤ b) (hb : b ≤ 1000000000000000000) : rs_XM d yX12_reduce [.ref 61, .long (lN a), .long (lN b)] (sk_w P n s I J R) Q ↔ Q (sk_w P n s (rs_u2 I 61 8 (nI (grt g a b))) (rs_u2 (rs_u2 J 61 6 (lN (a / Nat.gcd a b))) 61 7 (lN (b / Nat.gcd a b))) R) none := by
  refine rs_XM_iff ?_ Q
  rw [em_X12_reduce]
  simp only [g_X12_reduce_0, g_X12_reduce_1, g_X12_reduce_3, g_X12_reduce_4, lk_X12_reduce, XI, Nat.reduceAdd, Nat.reduceEqDiff, not_false_eq_true, nI_T1, nI_T0, true_and, and_true]
  refine X12_reduce_loop d _ _ _ _ 100 a b ha (by omega) (eu_100 hb) ?_ _ _
  intro z9 z10
  rw [eu_gcd 100 a b (eu_100 hb)]
  have hgp : 0 < Nat.gcd a b := Nat.gcd_pos_of_pos_right a hb1
  have hgm : Nat.gcd a b ≤ b := Nat.le_of_dvd hb1 (Nat.gcd_dvd_right a b)
  have hne : ¬ lN (Nat.gcd a b) = 0 := fun z => by
    rw [show (0 : Int64) = lN 0 from rfl, pk_lEQ (by omega) (by decide)] at z
    omega
  have h1 : a / Nat.gcd a b < 2 ^ 63 := Nat.lt_of_le_of_lt (Nat.div_le_self _ _) ha
  have h2 : b / Nat.gcd a b < 2 ^ 63 := Nat.lt_of_le_of_lt (Nat.div_le_self _ _) (by omega)
  simp (disch := omega) only [g_X12_reduce_31, g_X12_reduce_32, g_X12_reduce_33, g_X12_reduce_35, g_X12_reduce_36, g_X12_reduce_39, g_X12_reduce_40, g_X12_reduce_41, g_X12_reduce_43, g_X12_reduce_44, g_X12_reduce_47, g_X12_reduce_48, g_X12_reduce_49, g_X12_reduce_52, g_X12_reduce_53, g_X12_reduce_56, g_X12_reduce_59, g_X12_reduce_60, g_X12_reduce_63, g_X12_reduce_64, g_X12_reduce_67, g_X12_reduce_70, g_X12_reduce_71, g_X12_reduce_74, g_X12_reduce_75, g_X12_reduce_78, g_X12_reduce_79, g_X12_reduce_80, g_X12_reduce_83, lk_X12_reduce, XI, Nat.reduceAdd, Nat.reduceEqDiff, not_false_eq_true, nI_T1, nI_T0, true_and, and_true, WC, WV, WU, rs_u2_a, hne, not_false_eq_true, pk_lDiv ha hgp (show Nat.gcd a b < 2 ^ 63 by omega), pk_lDiv (show b < 2 ^ 63 by omega) hgp (show Nat.gcd a b < 2 ^ 63 by omega), lg_cmp_gt, lg_cmp_le, lN_ltS, pk_lLE h2 (show 1000000000 < 2 ^ 63 by decide), hI, ↓reduceIte, Nat.reduceEqDiff, nI_or0, nI_or1 hg, nI_b1 hg]
  unfold grt fr
  by_cases c1 : 1000000000 < a / Nat.gcd a b
  · rw [if_pos c1, if_neg (show ¬ (a / Nat.gcd a b ≤ 1000000000 ∧ b / Nat.gcd a b ≤ 1000000000) by omega), if_pos rfl]
  · rw [if_neg c1]
    by_cases c2 : b / Nat.gcd a b ≤ 1000000000
    · rw [if_pos c2, if_pos (show a / Nat.gcd a b ≤ 1000000000 ∧ b / Nat.gcd a b ≤ 1000000000 by omega), if_neg (fun z => by cases z)]
    · rw [if_neg c2, if_neg (show ¬ (a / Nat.gcd a b ≤ 1000000000 ∧ b / Nat.gcd a b ≤ 1000000000) by omega), if_pos rfl]
/-- the reference's number in hand: none if it grew too great -/
def MO (I : Nat → Nat → Int32) (J : Nat → Nat → Int64) (o : Option (Nat × Nat)) : Prop := match o with
  | some q => isF q ∧ I 61 8 = nI 0 ∧ J 61 6 = lN q.1 ∧ J 61 7 = lN q.2
  | none => I 61 8 = nI 1
/-- nothing but the number in hand is changed -/
def MOf (I : Nat → Nat → Int32) (J : Nat → Nat → Int64) (I' : Nat → Nat → Int32) (J' : Nat → Nat → Int64) (o : Option (Nat × Nat)) : Prop := MO I' J' o ∧ (∀ q j, ¬ (q = 61 ∧ j = 8) → I' q j = I q j) ∧ (∀ q j, ¬ (q = 61 ∧ (j = 6 ∨ j = 7)) → J' q j = J q j)
theorem MOf_red {g a b : Nat} (hb1 : 1 ≤ b) (hg : g = 0) : MOf I J (rs_u2 I 61 8 (nI (grt g a b))) (rs_u2 (rs_u2 J 61 6 (lN (a / Nat.gcd a b))) 61 7 (lN (b / Nat.gcd a b))) (fr a b) := by
  subst hg
  refine ⟨?_, ?_, ?_⟩
  · cases h : fr a b with
    | none => simp only [MO, grt, h, rs_u2_a, if_true]
    | some q =>
      have h2 := fr_isF hb1 h
      unfold fr at h
      split at h
      · cases h
        refine ⟨h2, ?_, ?_, ?_⟩
        · simp only [grt, rs_u2_a, if_true, fr, if_pos (by assumption : a / Nat.gcd a b ≤ 1000000000 ∧ b / Nat.gcd a b ≤ 1000000000), reduceCtorEq, if_false]
        · simp only [rs_u2_a, if_true, Nat.reduceEqDiff, ↓reduceIte]
        · simp only [rs_u2_a, if_true]
      · cases h
  · intro q j h
    simp only [rs_u2_a]
    split
    · split
      · exact absurd ⟨by assumption, by assumption⟩ h
      · rfl
    · rfl
  · intro q j h
    simp only [rs_u2_a]
    split
    · split
      · exact absurd ⟨by assumption, Or.inr (by assumption)⟩ h
      · split
        · exact absurd ⟨by assumption, Or.inl (by assumption)⟩ h
        · rfl
    · rfl
theorem MO_g {o : Option (Nat × Nat)} (h : MO I J o) : I 61 8 = nI (if o = none then 1 else 0) := by
  cases o with
  | none => exact h
  | some q => exact h.2.1
theorem s_X12_times {o : Option (Nat × Nat)} (ho : MO I J o) {a b : Nat} (ha : a ≤ 1000000000) (hb1 : 1 ≤ b) (hb : b ≤ 1000000000) (hQ : ∀ I' J', MOf I J I' J' (o.bind fun q => fr (q.1 * a) (q.2 * b)) → Q (sk_w P n s I' J' R) none) : rs_XM (d + 1) yX12_times [.ref 61, .long (lN a), .long (lN b)] (sk_w P n s I J R) Q := by
  rw [em_X12_times]
  cases o with
  | none =>
    have h1 : I 61 8 = nI 1 := ho
    simp (disch := omega) only [K_X12_times, lk_X12_times, XI, Nat.reduceAdd, Nat.reduceEqDiff, not_false_eq_true, nI_T1, nI_T0, true_and, and_true, WC, WV, WU, h1, nI_eq0S, Nat.succ_ne_zero, not_false_eq_true, if_true]

    exact hQ I J ⟨ho, fun _ _ _ => rfl, fun _ _ _ => rfl⟩
  | some q =>
    obtain ⟨hq, h1, h2, h3⟩ := ho
    have e1 := f_18 hq.1 ha
    have e2 := f_18 hq.2.2.1 hb
    have e3 := f_pos hq.2.1 hb1
    simp (disch := omega) only [K_X12_times, lk_X12_times, XI, Nat.reduceAdd, Nat.reduceEqDiff, not_false_eq_true, nI_T1, nI_T0, true_and, and_true, WC, WV, WU, h1, h2, h3, nI_eq0S, not_true_eq_false, if_false, lN_mul, s_X12_reduce _ P n s I J R _ (g := 0) (Nat.zero_le 1) h1]
    exact hQ _ _ (MOf_red I J e3 rfl)
theorem s_X12_plus {o : Option (Nat × Nat)} (ho : MO I J o) {a b : Nat} (ha : a ≤ 1000000000) (hb1 : 1 ≤ b) (hb : b ≤ 1000000000) (hQ : ∀ I' J', MOf I J I' J' (o.bind fun q => fr (q.1 * b + a * q.2) (q.2 * b)) → Q (sk_w P n s I' J' R) none) : rs_XM (d + 1) yX12_plus [.ref 61, .long (lN a), .long (lN b)] (sk_w P n s I J R) Q := by
  rw [em_X12_plus]
  cases o with
  | none =>
    have h1 : I 61 8 = nI 1 := ho
    simp (disch := omega) only [K_X12_plus, lk_X12_plus, XI, Nat.reduceAdd, Nat.reduceEqDiff, not_false_eq_true, nI_T1, nI_T0, true_and, and_true, WC, WV, WU, h1, nI_eq0S, Nat.succ_ne_zero, not_false_eq_true, if_true]
    exact hQ I J ⟨ho, fun _ _ _ => rfl, fun _ _ _ => rfl⟩
  | some q =>
    obtain ⟨hq, h1, h2, h3⟩ := ho
    have e1 := f_18 hq.1 hb
    have e4 := f_18 ha hq.2.2.1
    have e2 := f_18 hq.2.2.1 hb
    have e3 := f_pos hq.2.1 hb1
    simp (disch := omega) only [K_X12_plus, lk_X12_plus, XI, Nat.reduceAdd, Nat.reduceEqDiff, not_false_eq_true, nI_T1, nI_T0, true_and, and_true, WC, WV, WU, h1, h2, h3, nI_eq0S, not_true_eq_false, if_false, lN_mul, lN_add, s_X12_reduce _ P n s I J R _ (g := 0) (Nat.zero_le 1) h1]
    exact hQ _ _ (MOf_red I J e3 rfl)
end
