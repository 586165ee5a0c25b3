/-! RecipeScaler.Fraction -/
theorem X0_of_loop (d : Nat) (w : rs_H) (Q : rs_H → Option Value → Prop) (u m : Int64) : ∀ (k a b : Nat), k ≤ 100 → a < 2 ^ 63 → b < 2 ^ 63 → (∀ (b2 : Int64) (z8 z9 z10 z11 : Option Value), rs_X d yX0_of 60 [some (.long u), none, some (.long m), none, some (.long (lN (eu k a b).1)), none, some (.long b2), none, z8, z9, z10, z11] [] w Q) →
    ∀ (z9 z10 z11 : Option Value), rs_X d yX0_of 25 [some (.long u), none, some (.long m), none, some (.long (lN a)), none, some (.long (lN b)), none, some (.int (nI (100 - k))), z9, z10, z11] [] w Q := by
  intro k
  induction k with
  | zero =>
    intro a b hk ha hb h z9 z10 z11
    rw [g_X0_of_25]
    simp only [g_X0_of_27, g_X0_of_29, g_X0_of_32, g_X0_of_34, g_X0_of_35, g_X0_of_36, g_X0_of_39, g_X0_of_41, g_X0_of_43, g_X0_of_44, g_X0_of_46, g_X0_of_48, g_X0_of_50, g_X0_of_52, g_X0_of_54, g_X0_of_57, lk_X0_of, XI, Nat.reduceAdd, Nat.reduceEqDiff, not_false_eq_true, nI_T1, nI_T0, true_and, and_true, lg_cmp_eq]
    rw [if_pos (nI_le (by omega) (by decide))]
    exact h _ _ _ _ _
  | succ k ih =>
    intro a b hk ha hb h z9 z10 z11
    rw [g_X0_of_25]
    simp only [g_X0_of_27, g_X0_of_29, g_X0_of_32, g_X0_of_34, g_X0_of_35, g_X0_of_36, g_X0_of_39, g_X0_of_41, g_X0_of_43, g_X0_of_44, g_X0_of_46, g_X0_of_48, g_X0_of_50, g_X0_of_52, g_X0_of_54, g_X0_of_57, lk_X0_of, XI, Nat.reduceAdd, Nat.reduceEqDiff, not_false_eq_true, nI_T1, nI_T0, true_and, and_true, lg_cmp_eq]
    rw [if_neg (nI_ge (by omega) (by decide))]
    by_cases hz : b = 0
    · subst hz
      rw [if_pos rfl]
      rw [eu_z] at h
      exact h _ _ _ _ _
    · have hz' : ¬ lN b = lN 0 := fun z => hz ((pk_lEQ hb (by decide)).mp z)
      rw [if_neg hz']
      refine ⟨hz', ?_⟩
      rw [pk_lRem ha (Nat.pos_of_ne_zero hz) hb, nI_addS, show 100 - (k + 1) + 1 = 100 - k by omega]
      rw [eu_s hz] at h
      exact ih b (a % b) (by omega) hb (Nat.lt_of_le_of_lt (Nat.mod_le _ _) ha) h _ _ _
theorem s_X0_of (d : Nat) (w : rs_H) (Q : rs_H → Option Value → Prop) {n m : Nat} (hn : n < 2 ^ 63) (hm1 : 1 ≤ m) (hm : m ≤ 1000000000000000000) : rs_XM d yX0_of [.long (lN n), .long (lN m)] w Q ↔ Q w (some (.long (pkO (fr n m)))) := by
  refine rs_XM_iff ?_ Q
  rw [em_X0_of]
  simp only [g_X0_of_0, g_X0_of_1, g_X0_of_2, g_X0_of_3, g_X0_of_6, g_X0_of_7, g_X0_of_8, g_X0_of_9, g_X0_of_12, g_X0_of_15, g_X0_of_16, g_X0_of_17, g_X0_of_19, g_X0_of_20, g_X0_of_22, g_X0_of_23, lk_X0_of, XI, Nat.reduceAdd, Nat.reduceEqDiff, not_false_eq_true, nI_T1, nI_T0, true_and, and_true, lg_cmp_lt, lg_cmp_ge]
  rw [if_neg (by rw [pk_lLT hn (by decide)]; omega), if_pos (by rw [pk_lLE (by decide) (by omega)]; exact hm1)]
  refine X0_of_loop d w _ _ _ 100 n m (Nat.le_refl _) hn (by omega) ?_ _ _ _
  intro b2 z8 z9 z10 z11
  have hg := eu_gcd 100 n m (eu_100 hm)
  rw [hg]
  have hgp : 0 < Nat.gcd n m := Nat.gcd_pos_of_pos_right n hm1
  have hgm : Nat.gcd n m ≤ m := Nat.le_of_dvd hm1 (Nat.gcd_dvd_right n m)
  simp only [g_X0_of_60, g_X0_of_62, g_X0_of_63, g_X0_of_64, g_X0_of_67, g_X0_of_70, g_X0_of_71, g_X0_of_72, g_X0_of_74, g_X0_of_75, g_X0_of_77, g_X0_of_78, g_X0_of_80, g_X0_of_81, g_X0_of_83, g_X0_of_85, g_X0_of_88, g_X0_of_89, g_X0_of_92, g_X0_of_94, g_X0_of_97, g_X0_of_98, g_X0_of_101, g_X0_of_104, g_X0_of_107, g_X0_of_109, g_X0_of_111, g_X0_of_112, g_X0_of_114, g_X0_of_115, lk_X0_of, XI, Nat.reduceAdd, Nat.reduceEqDiff, not_false_eq_true, nI_T1, nI_T0, true_and, and_true, lg_cmp_lt, lg_cmp_ge, lg_cmp_gt, lg_cmp_le]
  rw [if_pos (by rw [pk_lLE (by decide) (by omega)]; exact hgp)]
  have hne : ¬ lN (Nat.gcd n m) = 0 := fun z => by
    rw [show (0 : Int64) = lN 0 from rfl, pk_lEQ (by omega) (by decide)] at z
    omega
  have h1 : n / Nat.gcd n m < 2 ^ 63 := Nat.lt_of_le_of_lt (Nat.div_le_self _ _) hn
  have h2 : m / Nat.gcd n m < 2 ^ 63 := Nat.lt_of_le_of_lt (Nat.div_le_self _ _) (by omega)
  refine ⟨hne, hne, ?_⟩
  rw [pk_lDiv hn hgp (by omega), pk_lDiv (by omega) hgp (by omega)]
  simp only [pk_lLT (show 1000000000 < 2 ^ 63 by decide) h1, pk_lLE h2 (show 1000000000 < 2 ^ 63 by decide), pk_put]
  unfold fr
  by_cases c1 : 1000000000 < n / Nat.gcd n m
  · rw [if_pos c1, if_neg (by omega)]
    rfl
  · rw [if_neg c1]
    by_cases c2 : m / Nat.gcd n m ≤ 1000000000
    · rw [if_pos c2, if_pos ⟨by omega, c2⟩]
      rfl
    · rw [if_neg c2, if_neg (fun z => c2 z.2)]
      rfl
/-- a fraction that may be too great: its halves are in lowest terms where it isn't -/
def okO (o : Option (Nat × Nat)) : Prop := ∀ q, o = some q → isF q
theorem okO_s {q : Nat × Nat} (h : isF q) : okO (some q) := fun r e => by cases e; exact h
theorem okO_n : okO none := fun r e => by cases e
theorem pkO_neg (o : Option (Nat × Nat)) (h : okO o) : (pkO o < 0) ↔ o = none := by
  cases o with
  | none => exact ⟨fun _ => rfl, fun _ => by decide⟩
  | some q => exact ⟨fun z => absurd z (pkF_nn (h q rfl)), fun z => by cases z⟩
def omul (a b : Option (Nat × Nat)) : Option (Nat × Nat) := a.bind fun a => b.bind fun b => fmul a b
def odiv (a b : Option (Nat × Nat)) : Option (Nat × Nat) := a.bind fun a => b.bind fun b => fdiv a b
def oadd (a b : Option (Nat × Nat)) : Option (Nat × Nat) := a.bind fun a => b.bind fun b => fadd a b
theorem nI_long {n : Nat} (h : n ≤ 1000000000) : (nI n).toInt64 = lN n := nI_l (by omega)
theorem f_pos {a b : Nat} (ha : 1 ≤ a) (hb : 1 ≤ b) : 1 ≤ a * b := Nat.mul_pos ha hb
theorem f_18 {a b : Nat} (ha : a ≤ 1000000000) (hb : b ≤ 1000000000) : a * b ≤ 1000000000000000000 := Nat.mul_le_mul ha hb
theorem pkO_s (q : Nat × Nat) : pkO (some q) = pkF q := rfl
theorem pkO_nn (o : Option (Nat × Nat)) (h : okO o) : (0 ≤ pkO o) ↔ ¬ o = none := by
  rw [← pkO_neg o h, Int64.not_lt]
theorem lN_0 : lN 0 = 0 := rfl
theorem pkO_m1 : (Value.long (-1)) = .long (pkO none) := rfl
theorem omul_n1 (b : Option (Nat × Nat)) : omul none b = none := rfl
theorem omul_n2 (a : Option (Nat × Nat)) : omul a none = none := by cases a <;> rfl
theorem omul_s (a b : Nat × Nat) : omul (some a) (some b) = fr (a.1 * b.1) (a.2 * b.2) := rfl
theorem odiv_n1 (b : Option (Nat × Nat)) : odiv none b = none := rfl
theorem odiv_n2 (a : Option (Nat × Nat)) : odiv a none = none := by cases a <;> rfl
theorem odiv_s (a b : Nat × Nat) : odiv (some a) (some b) = fr (a.1 * b.2) (a.2 * b.1) := rfl
theorem oadd_n1 (b : Option (Nat × Nat)) : oadd none b = none := rfl
theorem oadd_n2 (a : Option (Nat × Nat)) : oadd a none = none := by cases a <;> rfl
theorem oadd_s (a b : Nat × Nat) : oadd (some a) (some b) = fr (a.1 * b.2 + b.1 * a.2) (a.2 * b.2) := rfl
theorem s_X0_product (d : Nat) (w : rs_H) (Q : rs_H → Option Value → Prop) {a b : Option (Nat × Nat)} (ha : okO a) (hb : okO b) : rs_XM (d + 1) yX0_product [.long (pkO a), .long (pkO b)] w Q ↔ Q w (some (.long (pkO (omul a b)))) := by
  rw [em_X0_product]
  simp only [K_X0_product, lk_X0_product, XI, Nat.reduceAdd, Nat.reduceEqDiff, not_false_eq_true, nI_T1, nI_T0, true_and, and_true, lg_cmp_lt, lg_cmp_ge, lN_0, pkO_neg a ha, pkO_nn b hb]
  cases a with
  | none => rw [if_pos rfl, omul_n1]; exact Iff.rfl
  | some p =>
    rw [if_neg (fun z => by cases z)]
    cases b with
    | none => rw [if_neg (fun z => z rfl), omul_n2]; exact Iff.rfl
    | some q =>
      rw [if_pos (fun z => by cases z)]
      have hp := ha p rfl
      have hq := hb q rfl
      simp only [pkO_s, s_X0_up _ _ _ hp, s_X0_up _ _ _ hq, s_X0_down _ _ _ hp, s_X0_down _ _ _ hq, K_X0_product, lk_X0_product, XI, Nat.reduceAdd, Nat.reduceEqDiff, not_false_eq_true, nI_T1, nI_T0, true_and, and_true, nI_long hp.1, nI_long hq.1, nI_long hp.2.2.1, nI_long hq.2.2.1, lN_mul]
      rw [s_X0_of _ _ _ (by have := f_18 hp.1 hq.1; omega) (f_pos hp.2.1 hq.2.1) (f_18 hp.2.2.1 hq.2.2.1), omul_s]
      simp only [K_X0_product, lk_X0_product, XI, Nat.reduceAdd, Nat.reduceEqDiff, not_false_eq_true, nI_T1, nI_T0, true_and, and_true]
theorem s_X0_quotient (d : Nat) (w : rs_H) (Q : rs_H → Option Value → Prop) {a b : Option (Nat × Nat)} (ha : okO a) (hb : okO b) (hb0 : ∀ q, b = some q → 1 ≤ q.1) : rs_XM (d + 1) yX0_quotient [.long (pkO a), .long (pkO b)] w Q ↔ Q w (some (.long (pkO (odiv a b)))) := by
  rw [em_X0_quotient]
  simp only [K_X0_quotient, lk_X0_quotient, XI, Nat.reduceAdd, Nat.reduceEqDiff, not_false_eq_true, nI_T1, nI_T0, true_and, and_true, lg_cmp_lt, lg_cmp_ge, lN_0, pkO_neg a ha, pkO_nn b hb]
  cases a with
  | none => rw [if_pos rfl, odiv_n1]; exact Iff.rfl
  | some p =>
    rw [if_neg (fun z => by cases z)]
    cases b with
    | none => rw [if_neg (fun z => z rfl), odiv_n2]; exact Iff.rfl
    | some q =>
      rw [if_pos (fun z => by cases z)]
      have hp := ha p rfl
      have hq := hb q rfl
      have hq0 := hb0 q rfl
      simp only [pkO_s, s_X0_up _ _ _ hp, s_X0_up _ _ _ hq, s_X0_down _ _ _ hp, s_X0_down _ _ _ hq, K_X0_quotient, lk_X0_quotient, XI, Nat.reduceAdd, Nat.reduceEqDiff, not_false_eq_true, nI_T1, nI_T0, true_and, and_true, nI_long hp.1, nI_long hq.1, nI_long hp.2.2.1, nI_long hq.2.2.1, lN_mul]
      rw [s_X0_of _ _ _ (by have := f_18 hp.1 hq.2.2.1; omega) (f_pos hp.2.1 hq0) (f_18 hp.2.2.1 hq.1), odiv_s]
      simp only [K_X0_quotient, lk_X0_quotient, XI, Nat.reduceAdd, Nat.reduceEqDiff, not_false_eq_true, nI_T1, nI_T0, true_and, and_true]
theorem s_X0_sum (d : Nat) (w : rs_H) (Q : rs_H → Option Value → Prop) {a b : Option (Nat × Nat)} (ha : okO a) (hb : okO b) : rs_XM (d + 1) yX0_sum [.long (pkO a), .long (pkO b)] w Q ↔ Q w (some (.long (pkO (oadd a b)))) := by
  rw [em_X0_sum]
  simp only [K_X0_sum, lk_X0_sum, XI, Nat.reduceAdd, Nat.reduceEqDiff, not_false_eq_true, nI_T1, nI_T0, true_and, and_true, lg_cmp_lt, lg_cmp_ge, lN_0, pkO_neg a ha, pkO_nn b hb]
  cases a with
  | none => rw [if_pos rfl, oadd_n1]; exact Iff.rfl
  | some p =>
    rw [if_neg (fun z => by cases z)]
    cases b with
    | none => rw [if_neg (fun z => z rfl), oadd_n2]; exact Iff.rfl
    | some q =>
      rw [if_pos (fun z => by cases z)]
      have hp := ha p rfl
      have hq := hb q rfl
      simp only [pkO_s, s_X0_up _ _ _ hp, s_X0_up _ _ _ hq, s_X0_down _ _ _ hp, s_X0_down _ _ _ hq, K_X0_sum, lk_X0_sum, XI, Nat.reduceAdd, Nat.reduceEqDiff, not_false_eq_true, nI_T1, nI_T0, true_and, and_true, nI_long hp.1, nI_long hq.1, nI_long hp.2.2.1, nI_long hq.2.2.1, lN_mul, lN_add]
      rw [s_X0_of _ _ _ (by have := f_18 hp.1 hq.2.2.1; have := f_18 hq.1 hp.2.2.1; omega) (f_pos hp.2.1 hq.2.1) (f_18 hp.2.2.1 hq.2.2.1), oadd_s]
      simp only [K_X0_sum, lk_X0_sum, XI, Nat.reduceAdd, Nat.reduceEqDiff, not_false_eq_true, nI_T1, nI_T0, true_and, and_true]
theorem lN_ltS {a b : Nat} (ha : a < 2 ^ 63) (hb : b < 2 ^ 63) : (lN a < lN b) ↔ a < b := pk_lLT ha hb
/-- above a whole number -/
theorem s_X0_isAbove (d : Nat) (w : rs_H) (Q : rs_H → Option Value → Prop) {q : Nat × Nat} (hq : isF q) {k : Nat} (hk : k ≤ 1000000) : rs_XM (d + 1) yX0_isAbove [.long (pkF q), .int (nI k)] w Q ↔ Q w (some (.int (rs_b (k * q.2 < q.1)))) := by
  rw [em_X0_isAbove]
  have h1 : k * q.2 ≤ 1000000 * 1000000000 := Nat.mul_le_mul hk hq.2.2.1
  have h2 := hq.1
  simp only [K_X0_isAbove, lk_X0_isAbove, XI, Nat.reduceAdd, Nat.reduceEqDiff, not_false_eq_true, nI_T1, nI_T0, true_and, and_true, s_X0_up _ _ _ hq, s_X0_down _ _ _ hq, nI_long hq.1, nI_long hq.2.2.1, nI_long (show k ≤ 1000000000 by omega), lN_mul, lg_cmp_le, lg_cmp_gt, pk_lLE (show q.1 < 2 ^ 63 by omega) (show k * q.2 < 2 ^ 63 by omega), pk_lLT (show k * q.2 < 2 ^ 63 by omega) (show q.1 < 2 ^ 63 by omega)]
  by_cases h : q.1 ≤ k * q.2
  · rw [if_pos h, rs_b_f (by omega)]
  · rw [if_neg h, rs_b_t (by omega)]
theorem s_X0_lessWhole (d : Nat) (w : rs_H) (Q : rs_H → Option Value → Prop) {q : Nat × Nat} (hq : isF q) {k : Nat} (hk : k ≤ 1000000) (hle : k * q.2 ≤ q.1) : rs_XM (d + 1) yX0_lessWhole [.long (pkF q), .int (nI k)] w Q ↔ Q w (some (.long (pkO (fr (q.1 - k * q.2) q.2)))) := by
  rw [em_X0_lessWhole]
  have h2 := hq.1
  have h3 := hq.2.2.1
  simp only [K_X0_lessWhole, lk_X0_lessWhole, XI, Nat.reduceAdd, Nat.reduceEqDiff, not_false_eq_true, nI_T1, nI_T0, true_and, and_true, s_X0_up _ _ _ hq, s_X0_down _ _ _ hq, nI_long hq.1, nI_long hq.2.2.1, nI_long (show k ≤ 1000000000 by omega), lN_mul, lN_sub hle]
  rw [s_X0_of _ _ _ (by omega) hq.2.1 (by omega)]
  simp only [K_X0_lessWhole, lk_X0_lessWhole, XI, Nat.reduceAdd, Nat.reduceEqDiff, not_false_eq_true, nI_T1, nI_T0, true_and, and_true]
theorem s_X0_isLess (d : Nat) (w : rs_H) (Q : rs_H → Option Value → Prop) {a b : Nat × Nat} (ha : isF a) (hb : isF b) : rs_XM (d + 1) yX0_isLess [.long (pkF a), .long (pkF b)] w Q ↔ Q w (some (.int (rs_b (a.1 * b.2 < b.1 * a.2)))) := by
  rw [em_X0_isLess]
  have h1 := f_18 ha.1 hb.2.2.1
  have h2 := f_18 hb.1 ha.2.2.1
  simp only [K_X0_isLess, lk_X0_isLess, XI, Nat.reduceAdd, Nat.reduceEqDiff, not_false_eq_true, nI_T1, nI_T0, true_and, and_true, s_X0_up _ _ _ ha, s_X0_down _ _ _ ha, s_X0_up _ _ _ hb, s_X0_down _ _ _ hb, nI_long ha.1, nI_long ha.2.2.1, nI_long hb.1, nI_long hb.2.2.1, lN_mul, lg_cmp_ge, lg_cmp_lt, pk_lLE (show b.1 * a.2 < 2 ^ 63 by omega) (show a.1 * b.2 < 2 ^ 63 by omega), pk_lLT (show a.1 * b.2 < 2 ^ 63 by omega) (show b.1 * a.2 < 2 ^ 63 by omega)]
  by_cases h : b.1 * a.2 ≤ a.1 * b.2
  · rw [if_pos h, rs_b_f (by omega)]
  · rw [if_neg h, rs_b_t (by omega)]
theorem s_X0_roundedUp (d : Nat) (w : rs_H) (Q : rs_H → Option Value → Prop) {q : Nat × Nat} (hq : isF q) : rs_XM (d + 1) yX0_roundedUp [.long (pkF q)] w Q ↔ Q w (some (.int (nI ((q.1 + q.2 - 1) / q.2)))) := by
  rw [em_X0_roundedUp]
  have h1 := hq.1
  have h2 := hq.2.1
  have h3 := hq.2.2.1
  have hle : (q.1 + q.2 - 1) / q.2 ≤ q.1 + q.2 - 1 := Nat.div_le_self _ _
  have hne : ¬ lN q.2 = 0 := fun z => by
    rw [show (0 : Int64) = lN 0 from rfl, pk_lEQ (by omega) (by decide)] at z
    omega
  simp only [K_X0_roundedUp, lk_X0_roundedUp, XI, Nat.reduceAdd, Nat.reduceEqDiff, not_false_eq_true, nI_T1, nI_T0, true_and, and_true, s_X0_up _ _ _ hq, s_X0_down _ _ _ hq, nI_long hq.1, nI_long hq.2.2.1, lN_add, show lN 1 = lN 1 from rfl, lN_sub (show 1 ≤ q.1 + q.2 by omega), pk_lDiv (show q.1 + q.2 - 1 < 2 ^ 63 by omega) (show 0 < q.2 from h2) (show q.2 < 2 ^ 63 by omega), lN_i, not_false_eq_true, hne]
  rw [if_pos (nI_le h2 (by omega))]
