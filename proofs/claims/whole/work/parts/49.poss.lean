/-! how much of a recipe the stock allows -/
def psL (D : Dt) (S : Nat → Nat × Nat) : Nat → Option (Option (Nat × Nat))
  | 0 => some none
  | k + 1 => match psL D S k with
    | none => none
    | some o => if 0 < (S k).1 then (match odiv (some ((D.ig k).stk, 1)) (some (S k)) with
      | none => none
      | some y => (match o with
        | none => some (some y)
        | some b => if y.1 * b.2 < b.1 * y.2 then some (some y) else some (some b))) else some o
theorem psL_s (D : Dt) (S : Nat → Nat × Nat) (k : Nat) : psL D S (k + 1) = (match psL D S k with
    | none => none
    | some o => if 0 < (S k).1 then (match odiv (some ((D.ig k).stk, 1)) (some (S k)) with
      | none => none
      | some y => (match o with
        | none => some (some y)
        | some b => if y.1 * b.2 < b.1 * y.2 then some (some y) else some (some b))) else some o) := rfl
theorem psL_none (D : Dt) (S : Nat → Nat × Nat) : ∀ (m k : Nat), psL D S k = none → psL D S (k + m) = none
  | 0, k, h => h
  | m + 1, k, h => by
    rw [← Nat.add_assoc, psL_s, psL_none D S m k h]
theorem psL_ok {D : Dt} (hD : D.ok) {S : Nat → Nat × Nat} (hS : stOk S) : ∀ (k : Nat), k ≤ 12 → ∀ o, psL D S k = some o → okO o
  | 0, _, o, h => by
    cases h
    exact okO_n
  | k + 1, hk, o, h => by
    have ih := psL_ok hD hS k (by omega)
    have hq := hS k (by omega)
    rw [psL_s] at h
    cases h1 : psL D S k with
    | none =>
      rw [h1] at h
      cases h
    | some o2 =>
      rw [h1] at h
      dsimp only at h
      by_cases c : 0 < (S k).1
      · rw [if_pos c] at h
        cases h2 : odiv (some ((D.ig k).stk, 1)) (some (S k)) with
        | none =>
          rw [h2] at h
          cases h
        | some y =>
          rw [h2] at h
          have hy : isF y := by
            rw [odiv_s] at h2
            exact fr_isF (show 1 ≤ 1 * (S k).1 by omega) h2
          dsimp only at h
          cases o2 with
          | none =>
            cases h
            exact okO_s hy
          | some b =>
            dsimp only at h
            split at h
            · cases h
              exact okO_s hy
            · cases h
              exact ih _ h1
      · rw [if_neg c] at h
        cases h
        exact ih _ h1
def psR (D : Dt) (S : Nat → Nat × Nat) : Option (Nat × Nat) := (psL D S 12).join
section
variable {D : Dt} {Ds : Option Dt} {L : List Dt} {tp : List Nat} {rea : Int32}
theorem X3_yields_l (hD : D.ok) {P : Nat → Option rs_C} {n b q : Nat} (s : Nat) (I : Nat → Nat → Int32) (J : Nat → Nat → Int64) {R : Nat → Nat → Option Nat} (d : Nat) (Q : rs_H → Option Value → Prop) (hq : cSt P b q D) {S : Nat → Nat × Nat} (hS : stOk S) (b47 : ∀ i, i < 12 → J 47 i = pkF (S i)) (hQ : Q (sk_w P n s I J R) (some (.long (pkO (psR D S))))) : ∀ (m k : Nat) (o : Option (Nat × Nat)) (z5 z6 z7 z8 z9 : Option Value), k + m = 12 → psL D S k = some o →
    rs_X (d + 20) yX3_yieldsOfStock 7 [some (.ref 45), some (.ref q), some (.long (pkO o)), none, some (.int (nI k)), z5, z6, z7, z8, z9] [] (sk_w P n s I J R) Q := by
  intro m
  induction m with
  | zero =>
    intro k o z5 z6 z7 z8 z9 hk ho
    have : k = 12 := by omega
    subst this
    have e : psR D S = o := by unfold psR; rw [ho]; rfl
    rw [e] at hQ
    rw [g_X3_yieldsOfStock_7]
    simp (disch := omega) only [g_X3_yieldsOfStock_9, g_X3_yieldsOfStock_11, lk_X3_yieldsOfStock, g_X3_yieldsOfStock_102, g_X3_yieldsOfStock_103, lk_X3_yieldsOfStock, XI, Nat.reduceAdd, Nat.reduceEqDiff, not_false_eq_true, nI_T1, nI_T0, true_and, and_true, WC, WV, WU, nI_leS, Nat.le_refl, if_true]
    exact hQ
  | succ m ih =>
    intro k o z5 z6 z7 z8 z9 hk ho
    obtain ⟨x, hx, cx⟩ := g_ingredientAt hq (show k < 12 by omega)
    obtain ⟨V, a', c, Ua, Uc, h1, h2, h3, h4, v0, v1, v2, v3, v4, v5, v6, v7, h5⟩ := id hx
    have hA := hS k (by omega)
    have hg := hD.2.1 k (by omega)
    have hst := hg.2.2.2.2.1
    have hok := psL_ok hD hS k (by omega) o ho
    have hs := psL_s D S k
    rw [ho] at hs
    dsimp only at hs
    rw [g_X3_yieldsOfStock_7]
    simp (disch := omega) only [g_X3_yieldsOfStock_9, g_X3_yieldsOfStock_11, g_X3_yieldsOfStock_14, g_X3_yieldsOfStock_15, g_X3_yieldsOfStock_17, g_X3_yieldsOfStock_20, g_X3_yieldsOfStock_22, g_X3_yieldsOfStock_23, g_X3_yieldsOfStock_26, g_X3_yieldsOfStock_28, g_X3_yieldsOfStock_31, g_X3_yieldsOfStock_33, g_X3_yieldsOfStock_35, g_X3_yieldsOfStock_38, g_X3_yieldsOfStock_40, g_X3_yieldsOfStock_41, g_X3_yieldsOfStock_44, lk_X3_yieldsOfStock, XI, Nat.reduceAdd, Nat.reduceEqDiff, not_false_eq_true, nI_T1, nI_T0, true_and, and_true, WC, WV, WU, rs_b_0, rs_b_ok2, true_or, or_true, Classical.not_not, not_true_eq_false, if_true, if_false, reduceCtorEq, nI_leS, k_St P n s _ _ R hq, cx, su_at_46, b47 k (by omega), s_X0_isAbove _ _ _ hA (Nat.zero_le 1000000), Nat.zero_mul]
    rw [if_neg (by omega)]
    by_cases e : 0 < (S k).1
    · rw [if_pos e] at hs
      have hw := isF_w hst
      have hdv : okO (odiv (some ((D.ig k).stk, 1)) (some (S k))) := by
        intro y h2
        rw [odiv_s] at h2
        exact fr_isF (show 1 ≤ 1 * (S k).1 by omega) h2
      rw [if_pos e]
      simp (disch := omega) only [g_X3_yieldsOfStock_50, g_X3_yieldsOfStock_52, g_X3_yieldsOfStock_55, g_X3_yieldsOfStock_56, g_X3_yieldsOfStock_57, g_X3_yieldsOfStock_60, g_X3_yieldsOfStock_62, g_X3_yieldsOfStock_65, g_X3_yieldsOfStock_67, g_X3_yieldsOfStock_69, g_X3_yieldsOfStock_70, g_X3_yieldsOfStock_71, g_X3_yieldsOfStock_74, g_X3_yieldsOfStock_77, lk_X3_yieldsOfStock, XI, Nat.reduceAdd, Nat.reduceEqDiff, not_false_eq_true, nI_T1, nI_T0, true_and, and_true, WC, WV, WU, rs_b_0, rs_b_ok2, true_or, or_true, Classical.not_not, not_true_eq_false, if_true, if_false, reduceCtorEq, sk_cP n s _ _ R h1, v4, nI_long (show (D.ig k).stk ≤ 1000000000 by omega), s_X0_of _ _ _ (show (D.ig k).stk < 2 ^ 63 by omega) (Nat.le_refl 1) (show 1 ≤ 1000000000000000000 by decide), fr_w hst, ← pkO_s (S k), s_X0_quotient _ _ _ (okO_s hw) (okO_s hA) (fun q e2 => by cases e2; exact e), lg_cmp_ge, lg_cmp_lt, lN_0, pkO_nn _ hdv]
      cases hy : odiv (some ((D.ig k).stk, 1)) (some (S k)) with
      | none =>
        rw [hy] at hs
        have e2 : psR D S = none := by
          unfold psR
          rw [show 12 = (k + 1) + m by omega, psL_none D S m (k + 1) hs]
          rfl
        rw [e2] at hQ
        simp only [not_true_eq_false, if_false]
        exact hQ
      | some y =>
        rw [hy] at hs hdv
        have hyF := hdv y rfl
        dsimp only at hs
        simp (disch := omega) only [reduceCtorEq, not_false_eq_true, if_true, pkO_s]
        cases o with
        | none =>
          simp (disch := omega) only [g_X3_yieldsOfStock_78, g_X3_yieldsOfStock_79, g_X3_yieldsOfStock_80, g_X3_yieldsOfStock_81, g_X3_yieldsOfStock_84, g_X3_yieldsOfStock_86, g_X3_yieldsOfStock_87, g_X3_yieldsOfStock_90, g_X3_yieldsOfStock_93, g_X3_yieldsOfStock_95, g_X3_yieldsOfStock_96, g_X3_yieldsOfStock_99, lk_X3_yieldsOfStock, XI, Nat.reduceAdd, Nat.reduceEqDiff, not_false_eq_true, nI_T1, nI_T0, true_and, and_true, WC, WV, WU, rs_b_0, rs_b_ok2, true_or, or_true, Classical.not_not, not_true_eq_false, if_true, if_false, reduceCtorEq, lg_cmp_lt, lN_0, show (pkO none < 0) ↔ True from ⟨fun _ => trivial, fun _ => by decide⟩, nI_addS]
          exact ih (k + 1) (some y) _ _ _ _ _ (by omega) hs
        | some b0 =>
          have hb := hok b0 rfl
          dsimp only at hs
          simp (disch := omega) only [g_X3_yieldsOfStock_78, g_X3_yieldsOfStock_79, g_X3_yieldsOfStock_80, g_X3_yieldsOfStock_81, g_X3_yieldsOfStock_84, g_X3_yieldsOfStock_86, g_X3_yieldsOfStock_87, g_X3_yieldsOfStock_90, g_X3_yieldsOfStock_93, g_X3_yieldsOfStock_95, g_X3_yieldsOfStock_96, g_X3_yieldsOfStock_99, lk_X3_yieldsOfStock, XI, Nat.reduceAdd, Nat.reduceEqDiff, not_false_eq_true, nI_T1, nI_T0, true_and, and_true, WC, WV, WU, rs_b_0, rs_b_ok2, true_or, or_true, Classical.not_not, not_true_eq_false, if_true, if_false, reduceCtorEq, lg_cmp_lt, lN_0, pkO_s, show (pkF b0 < 0) ↔ False from ⟨fun z => pkF_nn hb z, fun z => z.elim⟩, s_X0_isLess _ _ _ hyF hb, nI_addS]
          by_cases c2 : y.1 * b0.2 < b0.1 * y.2
          · rw [if_pos c2] at hs
            simp only [c2, not_true_eq_false, if_false]
            exact ih (k + 1) (some y) _ _ _ _ _ (by omega) hs
          · rw [if_neg c2] at hs
            simp only [c2, not_false_eq_true, if_true]
            exact ih (k + 1) (some b0) _ _ _ _ _ (by omega) hs
    · rw [if_neg e] at hs
      rw [if_neg e]
      simp (disch := omega) only [g_X3_yieldsOfStock_47, lk_X3_yieldsOfStock, g_X3_yieldsOfStock_96, g_X3_yieldsOfStock_99, lk_X3_yieldsOfStock, XI, Nat.reduceAdd, Nat.reduceEqDiff, not_false_eq_true, nI_T1, nI_T0, true_and, and_true, WC, WV, WU, nI_addS]
      exact ih (k + 1) o _ _ _ _ _ (by omega) hs
/-- a number that grew too great stays so -/
theorem X12_poss_g (P : Nat → Option rs_C) (n s : Nat) (R : Nat → Nat → Option Nat) (d : Nat) (Q : rs_H → Option Value → Prop) {S : Nat → Nat × Nat} (hS : stOk S) (x1 x2 x3 : Int32) : ∀ (m k : Nat) (I : Nat → Nat → Int32) (J : Nat → Nat → Int64) (u v : Int64), k + m = 12 → I 61 8 = nI 1 → mS J 67 68 12 S → (∀ I' J', fI I I' → fK J J' → Q (sk_w P n s I' J' R) (some (.long (-9223372036854775808)))) →
    rs_X (d + 20) yX12_possible 63 [some (.ref 61), some (.int x1), some (.int x2), some (.int x3), some (.long u), none, some (.long v), none, some (.int (nI k))] [] (sk_w P n s I J R) Q := by
  intro m
  induction m with
  | zero =>
    intro k I J u v hk h8 hm hQ
    have : k = 12 := by omega
    subst this
    rw [g_X12_possible_63]
    simp (disch := omega) only [g_X12_possible_65, g_X12_possible_67, lk_X12_possible, g_X12_possible_162, g_X12_possible_163, g_X12_possible_166, g_X12_possible_169, g_X12_possible_171, g_X12_possible_172, g_X12_possible_173, g_X12_possible_176, g_X12_possible_179, g_X12_possible_182, g_X12_possible_183, g_X12_possible_186, g_X12_possible_188, g_X12_possible_191, g_X12_possible_193, lk_X12_possible, XI, Nat.reduceAdd, Nat.reduceEqDiff, not_false_eq_true, nI_T1, nI_T0, true_and, and_true, WC, WV, WU, rs_b_0, rs_b_ok2, true_or, or_true, Classical.not_not, not_true_eq_false, if_true, if_false, reduceCtorEq, nI_leS, Nat.le_refl, h8, show (nI 1 = 0) ↔ False from ⟨fun z => absurd z (by decide), fun z => z.elim⟩]
    exact hQ I J (fI_r I) (fun _ _ _ => rfl)
  | succ m ih =>
    intro k I J u v hk h8 hm hQ
    have hA := hS k (by omega)
    have hA1 := hA.1
    rw [g_X12_possible_63]
    simp (disch := omega) only [g_X12_possible_65, g_X12_possible_67, g_X12_possible_70, g_X12_possible_71, g_X12_possible_74, g_X12_possible_76, g_X12_possible_77, g_X12_possible_78, g_X12_possible_79, g_X12_possible_82, g_X12_possible_83, g_X12_possible_84, g_X12_possible_87, g_X12_possible_89, g_X12_possible_92, g_X12_possible_94, g_X12_possible_95, g_X12_possible_96, g_X12_possible_97, g_X12_possible_98, g_X12_possible_101, g_X12_possible_102, g_X12_possible_103, g_X12_possible_106, g_X12_possible_108, g_X12_possible_109, g_X12_possible_110, g_X12_possible_113, g_X12_possible_115, g_X12_possible_116, lk_X12_possible, XI, Nat.reduceAdd, Nat.reduceEqDiff, not_false_eq_true, nI_T1, nI_T0, true_and, and_true, WC, WV, WU, rs_b_0, rs_b_ok2, true_or, or_true, Classical.not_not, not_true_eq_false, if_true, if_false, reduceCtorEq, nI_leS, nI_cl, rs_in_t, (hm k (by omega)).1, lg_cmp_le, lg_cmp_gt, pk_lLE (show (S k).1 < 2 ^ 63 by omega) (show 0 < 2 ^ 63 by decide), s_X12_at, nI_addS, s_X12_set, rs_u2_ne, (hm k (by omega)).2]
    rw [if_neg (by omega)]
    by_cases e : (S k).1 ≤ 0
    · rw [if_pos e]
      simp (disch := omega) only [g_X12_possible_156, g_X12_possible_159, lk_X12_possible, XI, Nat.reduceAdd, Nat.reduceEqDiff, not_false_eq_true, nI_T1, nI_T0, true_and, and_true, WC, WV, WU, nI_addS]
      exact ih (k + 1) I J u v (by omega) h8 hm hQ
    · rw [if_neg e]
      refine s_X12_times _ P n s I _ R _ (o := none) h8 hA.2.2.1 (by omega) hA.1 ?_
      intro I1 J1 m1
      have g8 : I1 61 8 = nI 1 := m1.1
      have hm1 : mS J1 67 68 12 S := fun i hi => by
        rw [m1.2.2 67 i (by omega), m1.2.2 68 i (by omega), rs_u2_ne _ _ (by omega), rs_u2_ne _ _ (by omega), rs_u2_ne _ _ (by omega), rs_u2_ne _ _ (by omega)]
        exact hm i hi
      have hQ1 : ∀ I' J', fI I1 I' → fK J1 J' → Q (sk_w P n s I' J' R) (some (.long (-9223372036854775808))) := fun I' J' a b => hQ I' J' (fun q j z => (a q j z).trans (m1.2.1 q j z)) (fun q j z => by rw [b q j z, m1.2.2 q j z, rs_u2_ne _ _ (by omega), rs_u2_ne _ _ (by omega)])
      simp (disch := omega) only [g_X12_possible_119, g_X12_possible_121, g_X12_possible_122, g_X12_possible_123, g_X12_possible_126, g_X12_possible_127, g_X12_possible_130, g_X12_possible_132, g_X12_possible_133, g_X12_possible_135, g_X12_possible_136, g_X12_possible_139, g_X12_possible_140, g_X12_possible_141, g_X12_possible_144, g_X12_possible_145, g_X12_possible_148, g_X12_possible_150, g_X12_possible_151, g_X12_possible_154, g_X12_possible_156, g_X12_possible_159, lk_X12_possible, XI, Nat.reduceAdd, Nat.reduceEqDiff, not_false_eq_true, nI_T1, nI_T0, true_and, and_true, WC, WV, WU, nI_addS]
      have ih2 := fun u v => ih (k + 1) I1 J1 u v (by omega) g8 hm1 hQ1
      split
      · exact ih2 _ _
      · split
        · exact ih2 _ _
        · exact ih2 _ _
def pU (o : Option (Nat × Nat)) : Int64 := match o with
  | none => -1
  | some b => lN b.1
def pV (o : Option (Nat × Nat)) : Int64 := match o with
  | none => lN 1
  | some b => lN b.2
/-- the answer, of a fraction that may be wanting -/
def pA (o : Option (Nat × Nat)) (b : Nat) : Int64 := match o with
  | none => -9223372036854775808
  | some q => lN (if b = 0 then q.1 else q.2)
theorem X12_poss_l (hD : D.ok) (P : Nat → Option rs_C) (n s : Nat) (R : Nat → Nat → Option Nat) (d : Nat) (Q : rs_H → Option Value → Prop) {S : Nat → Nat × Nat} (hS : stOk S) (x1 x3 : Int32) {b : Nat} (hb : b ≤ 1) : ∀ (m k : Nat) (I : Nat → Nat → Int32) (J : Nat → Nat → Int64) (o : Option (Nat × Nat)), k + m = 12 → psL D S k = some o → I 61 8 = nI 0 → mDt (I 62) D → mS J 67 68 12 S → (∀ I' J', fI I I' → fK J J' → Q (sk_w P n s I' J' R) (some (.long (pA (psR D S) b)))) →
    rs_X (d + 20) yX12_possible 63 [some (.ref 61), some (.int x1), some (.int (nI b)), some (.int x3), some (.long (pU o)), none, some (.long (pV o)), none, some (.int (nI k))] [] (sk_w P n s I J R) Q := by
  intro m
  induction m with
  | zero =>
    intro k I J o hk ho h8 hM hm hQ
    have : k = 12 := by omega
    subst this
    have e : psR D S = o := by unfold psR; rw [ho]; rfl
    rw [e] at hQ
    have hok := psL_ok hD hS 12 (by omega) o ho
    have hQ' := hQ I J (fI_r I) (fun _ _ _ => rfl)
    rw [g_X12_possible_63]
    cases o with
    | none =>
      simp (disch := omega) only [g_X12_possible_65, g_X12_possible_67, lk_X12_possible, g_X12_possible_162, g_X12_possible_163, g_X12_possible_166, g_X12_possible_169, g_X12_possible_171, g_X12_possible_172, g_X12_possible_173, g_X12_possible_176, g_X12_possible_179, g_X12_possible_182, g_X12_possible_183, g_X12_possible_186, g_X12_possible_188, g_X12_possible_191, g_X12_possible_193, lk_X12_possible, XI, Nat.reduceAdd, Nat.reduceEqDiff, not_false_eq_true, nI_T1, nI_T0, true_and, and_true, WC, WV, WU, rs_b_0, rs_b_ok2, true_or, or_true, Classical.not_not, not_true_eq_false, if_true, if_false, reduceCtorEq, nI_leS, Nat.le_refl, h8, nI_00, pU, pV, lg_cmp_ge, lg_cmp_lt, show (lN 0 ≤ -1) ↔ False from ⟨fun z => absurd z (by decide), fun z => z.elim⟩]
      exact hQ'
    | some q =>
      have hq := hok q rfl
      have hq1 := hq.1
      have hb2 : b = 0 ∨ b = 1 := by omega
      have hle : (lN 0 ≤ lN q.1) ↔ True := by rw [pk_lLE (by decide) (show q.1 < 2 ^ 63 by omega)]; exact ⟨fun _ => trivial, fun _ => Nat.zero_le _⟩
      rcases hb2 with e | e
      · subst e
        simp (disch := omega) only [g_X12_possible_65, g_X12_possible_67, lk_X12_possible, g_X12_possible_162, g_X12_possible_163, g_X12_possible_166, g_X12_possible_169, g_X12_possible_171, g_X12_possible_172, g_X12_possible_173, g_X12_possible_176, g_X12_possible_179, g_X12_possible_182, g_X12_possible_183, g_X12_possible_186, g_X12_possible_188, g_X12_possible_191, g_X12_possible_193, lk_X12_possible, XI, Nat.reduceAdd, Nat.reduceEqDiff, not_false_eq_true, nI_T1, nI_T0, true_and, and_true, WC, WV, WU, rs_b_0, rs_b_ok2, true_or, or_true, Classical.not_not, not_true_eq_false, if_true, if_false, reduceCtorEq, nI_leS, Nat.le_refl, h8, nI_00, pU, pV, lg_cmp_ge, lg_cmp_lt, hle]
        exact hQ'
      · subst e
        simp (disch := omega) only [g_X12_possible_65, g_X12_possible_67, lk_X12_possible, g_X12_possible_162, g_X12_possible_163, g_X12_possible_166, g_X12_possible_169, g_X12_possible_171, g_X12_possible_172, g_X12_possible_173, g_X12_possible_176, g_X12_possible_179, g_X12_possible_182, g_X12_possible_183, g_X12_possible_186, g_X12_possible_188, g_X12_possible_191, g_X12_possible_193, lk_X12_possible, XI, Nat.reduceAdd, Nat.reduceEqDiff, not_false_eq_true, nI_T1, nI_T0, true_and, and_true, WC, WV, WU, rs_b_0, rs_b_ok2, true_or, or_true, Classical.not_not, not_true_eq_false, if_true, if_false, reduceCtorEq, nI_leS, Nat.le_refl, h8, nI_00, pU, pV, lg_cmp_ge, lg_cmp_lt, hle, nI_eq0S, Nat.succ_ne_zero]
        exact hQ'
  | succ m ih =>
    intro k I J o hk ho h8 hM hm hQ
    have hA := hS k (by omega)
    have hA1 := hA.1
    have hg := hD.2.1 k (by omega)
    have hst := hg.2.2.2.2.1
    obtain ⟨g0, g1, g2, g3, g4, g5⟩ := hM.2.1 k (by omega)
    have hok := psL_ok hD hS k (by omega) o ho
    have hs := psL_s D S k
    rw [ho] at hs
    dsimp only at hs
    rw [g_X12_possible_63]
    simp (disch := omega) only [g_X12_possible_65, g_X12_possible_67, g_X12_possible_70, g_X12_possible_71, g_X12_possible_74, g_X12_possible_76, g_X12_possible_77, g_X12_possible_78, g_X12_possible_79, g_X12_possible_82, g_X12_possible_83, g_X12_possible_84, g_X12_possible_87, g_X12_possible_89, g_X12_possible_92, g_X12_possible_94, g_X12_possible_95, g_X12_possible_96, g_X12_possible_97, g_X12_possible_98, g_X12_possible_101, g_X12_possible_102, g_X12_possible_103, g_X12_possible_106, g_X12_possible_108, g_X12_possible_109, g_X12_possible_110, g_X12_possible_113, g_X12_possible_115, g_X12_possible_116, lk_X12_possible, XI, Nat.reduceAdd, Nat.reduceEqDiff, not_false_eq_true, nI_T1, nI_T0, true_and, and_true, WC, WV, WU, rs_b_0, rs_b_ok2, true_or, or_true, Classical.not_not, not_true_eq_false, if_true, if_false, reduceCtorEq, nI_leS, nI_cl, rs_in_t, (hm k (by omega)).1, lg_cmp_le, lg_cmp_gt, pk_lLE (show (S k).1 < 2 ^ 63 by omega) (show 0 < 2 ^ 63 by decide), s_X12_at, nI_addS, s_X12_set, rs_u2_ne, (hm k (by omega)).2, g4, nI_long (show (D.ig k).stk ≤ 1000000000 by omega)]
    rw [if_neg (by omega)]
    by_cases e : (S k).1 ≤ 0
    · rw [if_neg (by omega)] at hs
      rw [if_pos e]
      simp (disch := omega) only [g_X12_possible_156, g_X12_possible_159, lk_X12_possible, XI, Nat.reduceAdd, Nat.reduceEqDiff, not_false_eq_true, nI_T1, nI_T0, true_and, and_true, WC, WV, WU, nI_addS]
      exact ih (k + 1) I J o (by omega) hs h8 hM hm hQ
    · rw [if_pos (by omega)] at hs
      rw [if_neg e]
      refine s_X12_times _ P n s I _ R _ (MO_set J h8 (isF_w hst)) hA.2.2.1 (by omega) hA.1 ?_
      intro I1 J1 m1
      have m1 : MOf I (rs_u2 (rs_u2 J 61 6 (lN (D.ig k).stk)) 61 7 (lN 1)) I1 J1 (odiv (some ((D.ig k).stk, 1)) (some (S k))) := m1
      have hm1 : mS J1 67 68 12 S := fun i hi => by
        rw [m1.2.2 67 i (by omega), m1.2.2 68 i (by omega), rs_u2_ne _ _ (by omega), rs_u2_ne _ _ (by omega), rs_u2_ne _ _ (by omega), rs_u2_ne _ _ (by omega)]
        exact hm i hi
      have hM1 : mDt (I1 62) D := by
        rw [show I1 62 = I 62 from funext fun j => m1.2.1 62 j (by omega)]
        exact hM
      have hQ1 : ∀ I' J', fI I1 I' → fK J1 J' → Q (sk_w P n s I' J' R) (some (.long (pA (psR D S) b))) := fun I' J' a b => hQ I' J' (fun q j z => (a q j z).trans (m1.2.1 q j z)) (fun q j z => by rw [b q j z, m1.2.2 q j z, rs_u2_ne _ _ (by omega), rs_u2_ne _ _ (by omega)])
      cases hy : odiv (some ((D.ig k).stk, 1)) (some (S k)) with
      | none =>
        rw [hy] at hs m1
        have e2 : psR D S = none := by
          unfold psR
          rw [show 12 = (k + 1) + m by omega, psL_none D S m (k + 1) hs]
          rfl
        rw [e2] at hQ1
        have g8 : I1 61 8 = nI 1 := m1.1
        simp (disch := omega) only [g_X12_possible_119, g_X12_possible_121, g_X12_possible_122, g_X12_possible_123, g_X12_possible_126, g_X12_possible_127, g_X12_possible_130, g_X12_possible_132, g_X12_possible_133, g_X12_possible_135, g_X12_possible_136, g_X12_possible_139, g_X12_possible_140, g_X12_possible_141, g_X12_possible_144, g_X12_possible_145, g_X12_possible_148, g_X12_possible_150, g_X12_possible_151, g_X12_possible_154, g_X12_possible_156, g_X12_possible_159, lk_X12_possible, XI, Nat.reduceAdd, Nat.reduceEqDiff, not_false_eq_true, nI_T1, nI_T0, true_and, and_true, WC, WV, WU, nI_addS]
        have ih2 := fun u v => X12_poss_g P n s R d Q hS x1 (nI b) x3 m (k + 1) I1 J1 u v (by omega) g8 hm1 hQ1
        split
        · exact ih2 _ _
        · split
          · exact ih2 _ _
          · exact ih2 _ _
      | some y =>
        rw [hy] at hs m1
        obtain ⟨hyF, g8, c6, c7⟩ := m1.1
        have hy1 := hyF.1
        have hy2 := hyF.2.2.1
        dsimp only at hs
        cases o with
        | none =>
          simp (disch := omega) only [g_X12_possible_119, g_X12_possible_121, g_X12_possible_122, g_X12_possible_123, g_X12_possible_126, g_X12_possible_127, g_X12_possible_130, g_X12_possible_132, g_X12_possible_133, g_X12_possible_135, g_X12_possible_136, g_X12_possible_139, g_X12_possible_140, g_X12_possible_141, g_X12_possible_144, g_X12_possible_145, g_X12_possible_148, g_X12_possible_150, g_X12_possible_151, g_X12_possible_154, g_X12_possible_156, g_X12_possible_159, lk_X12_possible, XI, Nat.reduceAdd, Nat.reduceEqDiff, not_false_eq_true, nI_T1, nI_T0, true_and, and_true, WC, WV, WU, nI_addS, pU, pV, lg_cmp_lt, show ((-1 : Int64) < lN 0) ↔ True from ⟨fun _ => trivial, fun _ => by decide⟩, if_true, c6, c7]
          exact ih (k + 1) I1 J1 (some y) (by omega) hs g8 hM1 hm1 hQ1
        | some b0 =>
          have hb0 := hok b0 rfl
          have hb1 := hb0.1
          have hb2 := hb0.2.2.1
          have f1 := f_18 hy1 hb2
          have f2 := f_18 hb1 hy2
          dsimp only at hs
          simp (disch := omega) only [g_X12_possible_119, g_X12_possible_121, g_X12_possible_122, g_X12_possible_123, g_X12_possible_126, g_X12_possible_127, g_X12_possible_130, g_X12_possible_132, g_X12_possible_133, g_X12_possible_135, g_X12_possible_136, g_X12_possible_139, g_X12_possible_140, g_X12_possible_141, g_X12_possible_144, g_X12_possible_145, g_X12_possible_148, g_X12_possible_150, g_X12_possible_151, g_X12_possible_154, g_X12_possible_156, g_X12_possible_159, lk_X12_possible, XI, Nat.reduceAdd, Nat.reduceEqDiff, not_false_eq_true, nI_T1, nI_T0, true_and, and_true, WC, WV, WU, nI_addS, pU, pV, lg_cmp_lt, lg_cmp_ge, c6, c7, lN_mul, pk_lLT (show b0.1 < 2 ^ 63 by omega) (show 0 < 2 ^ 63 by decide), Nat.not_lt_zero, if_false, pk_lLE (show b0.1 * y.2 < 2 ^ 63 by omega) (show y.1 * b0.2 < 2 ^ 63 by omega)]
          by_cases c2 : y.1 * b0.2 < b0.1 * y.2
          · rw [if_pos c2] at hs
            rw [if_neg (by omega)]
            exact ih (k + 1) I1 J1 (some y) (by omega) hs g8 hM1 hm1 hQ1
          · rw [if_neg c2] at hs
            rw [if_pos (by omega)]
            exact ih (k + 1) I1 J1 (some b0) (by omega) hs g8 hM1 hm1 hQ1
theorem psR_ok (hD : D.ok) {S : Nat → Nat × Nat} (hS : stOk S) : okO (psR D S) := by
  unfold psR
  cases h : psL D S 12 with
  | none => exact okO_n
  | some o => exact psL_ok hD hS 12 (by decide) o h
theorem b_possible (hS : SOk D Ds L tp) (x0 x1 : Int32) : BC yX11_possible yX12_possible [.int x0, .int x1] D Ds L tp rea := by
  by_cases c0 : nI 0 ≤ x0 ∧ x0 ≤ nI 7
  · by_cases c1 : nI 0 ≤ x1 ∧ x1 ≤ nI 1
    · obtain ⟨r, -, hr, rfl⟩ := (nI_within (by decide) (by decide)).mp c0
      obtain ⟨b, -, hb, rfl⟩ := (nI_within (by decide) (by decide)).mp c1
      have ok := fnd_ok hS.1 r isF_11
      have o1 := ok.1
      have hR := psR_ok hS.1 ok.2.1
      refine ⟨D, Ds, L, tp, (if (fnd D r (1, 1)).1 = 0 then rea else nI (fnd D r (1, 1)).1), .long (if (fnd D r (1, 1)).1 = 0 then pA (psR D (fnd D r (1, 1)).2.1) b else -9223372036854775808), hS, fun d P n s I J R Q h hQ => ?_, fun d P n s I J R Q g8 h hQ => ?_, Or.inr ⟨_, rfl⟩⟩
      · obtain ⟨q, hRq, hq⟩ := h.2.1
        rw [em_X11_possible]
        simp (disch := omega) only [g_X11_possible_0, g_X11_possible_1, g_X11_possible_4, g_X11_possible_7, g_X11_possible_8, g_X11_possible_11, g_X11_possible_14, g_X11_possible_17, g_X11_possible_18, g_X11_possible_19, g_X11_possible_20, g_X11_possible_23, g_X11_possible_24, g_X11_possible_27, g_X11_possible_28, g_X11_possible_31, g_X11_possible_34, lk_X11_possible, XI, Nat.reduceAdd, Nat.reduceEqDiff, not_false_eq_true, nI_T1, nI_T0, true_and, and_true, WC, WV, WU, rs_b_0, rs_b_ok2, true_or, or_true, Classical.not_not, not_true_eq_false, if_true, if_false, reduceCtorEq, s_X11_isRecipe, s_X11_isPart, c0, c1, hRq, va_rf, k_St P n s _ _ R hq, show lN 4294967297 = pkF (1, 1) from rfl, s_find P n s _ _ R _ _ hq hS.1 (show r < 8 by omega) isF_11, s_X11_keepReason]
        by_cases hy : (fnd D r (1, 1)).1 = 0
        · rw [if_pos hy, if_pos hy] at hQ
          simp (disch := omega) only [g_X11_possible_37, g_X11_possible_40, g_X11_possible_43, g_X11_possible_44, g_X11_possible_45, g_X11_possible_48, g_X11_possible_49, g_X11_possible_52, lk_X11_possible, XI, Nat.reduceAdd, Nat.reduceEqDiff, not_false_eq_true, nI_T1, nI_T0, true_and, and_true, WC, WV, WU, rs_b_0, rs_b_ok2, true_or, or_true, Classical.not_not, not_true_eq_false, if_true, if_false, reduceCtorEq, hy, hRq, va_rf, k_St P n s _ _ R hq]
          rw [em_X3_yieldsOfStock]
          simp (disch := omega) only [g_X3_yieldsOfStock_0, g_X3_yieldsOfStock_3, g_X3_yieldsOfStock_4, g_X3_yieldsOfStock_5, lk_X3_yieldsOfStock, XI, Nat.reduceAdd, Nat.reduceEqDiff, not_false_eq_true, nI_T1, nI_T0, true_and, and_true, WC, WV, WU, rs_b_0, rs_b_ok2, true_or, or_true, Classical.not_not, not_true_eq_false, if_true, if_false, reduceCtorEq]
          refine X3_yields_l hS.1 s _ _ (d + 39) _ hq ok.2.1 (fun i hi => jS_at _ _ _ _ hi) ?_ 12 0 none _ _ _ _ _ rfl rfl
          have hQ' := hQ P n s (rs_u2 I 45 6 (nI (fnd D r (1, 1)).2.2)) (jS J 47 12 (fnd D r (1, 1)).2.1) R (CI_f h (rs_u2_ne _ _ (by omega)) (rs_u2_ne _ _ (by omega)) (fun j => rs_u2_ne _ _ (by omega)) (by rw [rs_u2_ne _ _ (by omega)]; exact h.2.2.2.2.2.1)) (fC_u (fC_r I) (by decide)) (fC_jS (fC_r J) (by decide)) (by omega) (by omega)
          cases hp : psR D (fnd D r (1, 1)).2.1 with
          | none =>
            rw [hp] at hQ'
            simp (disch := omega) only [g_X11_possible_55, g_X11_possible_56, g_X11_possible_57, g_X11_possible_58, g_X11_possible_59, g_X11_possible_62, g_X11_possible_65, g_X11_possible_68, g_X11_possible_69, g_X11_possible_70, g_X11_possible_73, lk_X11_possible, XI, Nat.reduceAdd, Nat.reduceEqDiff, not_false_eq_true, nI_T1, nI_T0, true_and, and_true, WC, WV, WU, rs_b_0, rs_b_ok2, true_or, or_true, Classical.not_not, not_true_eq_false, if_true, if_false, reduceCtorEq, lg_cmp_ge, lg_cmp_lt, show (lN 0 ≤ pkO none) ↔ False from ⟨fun z => absurd z (by decide), fun z => z.elim⟩]
            exact hQ'
          | some y =>
            rw [hp] at hQ' hR
            have hyF := hR y rfl
            simp (disch := omega) only [g_X11_possible_55, g_X11_possible_56, g_X11_possible_57, g_X11_possible_58, g_X11_possible_59, g_X11_possible_62, g_X11_possible_65, g_X11_possible_68, g_X11_possible_69, g_X11_possible_70, g_X11_possible_73, lk_X11_possible, XI, Nat.reduceAdd, Nat.reduceEqDiff, not_false_eq_true, nI_T1, nI_T0, true_and, and_true, WC, WV, WU, rs_b_0, rs_b_ok2, true_or, or_true, Classical.not_not, not_true_eq_false, if_true, if_false, reduceCtorEq, lg_cmp_ge, lg_cmp_lt, lN_0, pkO_nn _ hR, pkO_s, s_X11_partOf _ _ _ hyF, nI_eq0S]
            rw [if_pos (Int64.not_lt.mp (pkF_nn hyF))]
            exact hQ'
        · rw [if_neg hy, if_neg hy] at hQ
          simp (disch := omega) only [g_X11_possible_37, g_X11_possible_40, g_X11_possible_43, lk_X11_possible, XI, Nat.reduceAdd, Nat.reduceEqDiff, not_false_eq_true, nI_T1, nI_T0, true_and, and_true, WC, WV, WU, rs_b_0, rs_b_ok2, true_or, or_true, Classical.not_not, not_true_eq_false, if_true, if_false, reduceCtorEq, hy]
          refine hQ P n s _ _ R (CI_f h ?_ ?_ (fun j => ?_) (rs_u2_eq _ _ _ _)) (fC_u (fC_u (fC_r I) (by decide)) (by decide)) (fC_jS (fC_r J) (by decide)) (by omega) (by omega)
          · rw [rs_u2_ne _ _ (by omega), rs_u2_ne _ _ (by omega)]
          · rw [rs_u2_ne _ _ (by omega), rs_u2_ne _ _ (by omega)]
          · rw [rs_u2_ne _ _ (by omega), rs_u2_ne _ _ (by omega)]
      · rw [em_X12_possible]
        simp (disch := omega) only [g_X12_possible_0, g_X12_possible_1, g_X12_possible_4, g_X12_possible_7, g_X12_possible_8, g_X12_possible_9, g_X12_possible_10, g_X12_possible_13, g_X12_possible_16, g_X12_possible_19, g_X12_possible_20, g_X12_possible_21, g_X12_possible_22, g_X12_possible_23, g_X12_possible_24, lk_X12_possible, XI, Nat.reduceAdd, Nat.reduceEqDiff, not_false_eq_true, nI_T1, nI_T0, true_and, and_true, WC, WV, WU, rs_b_0, rs_b_ok2, true_or, or_true, Classical.not_not, not_true_eq_false, if_true, if_false, reduceCtorEq, s_X12_isNumber, s_X12_in, c0, c1]
        refine s_findNeed P n s R _ h.1 hS.1 (show r < 8 by omega) (f := (1, 1)) isF_11 ?_
        intro I1 J1 g1 j1 k1
        have hM1 := gI_m g1 h.1
        have h5 : I1 61 5 = rea := by rw [g1 61 5 (by omega) (by decide) (by decide)]; exact h.2.2.2.2.1
        by_cases hy : (fnd D r (1, 1)).1 = 0
        · rw [if_pos hy, if_pos hy] at hQ
          obtain ⟨q1, q2⟩ := k1 hy
          rw [hy]
          simp (disch := omega) only [g_X12_possible_27, g_X12_possible_28, g_X12_possible_29, g_X12_possible_30, g_X12_possible_33, g_X12_possible_34, g_X12_possible_37, g_X12_possible_38, g_X12_possible_41, g_X12_possible_44, g_X12_possible_45, g_X12_possible_48, g_X12_possible_51, g_X12_possible_52, g_X12_possible_55, g_X12_possible_57, g_X12_possible_58, g_X12_possible_60, g_X12_possible_61, lk_X12_possible, XI, Nat.reduceAdd, Nat.reduceEqDiff, not_false_eq_true, nI_T1, nI_T0, true_and, and_true, WC, WV, WU, rs_b_0, rs_b_ok2, true_or, or_true, Classical.not_not, not_true_eq_false, if_true, if_false, reduceCtorEq, nI_le0S]
          have hMr : mDt ((rs_u2 I1 61 5 (I1 61 5)) 62) D := by
            rw [show rs_u2 I1 61 5 (I1 61 5) 62 = I1 62 from funext fun j => rs_u2_ne _ _ (by omega)]
            exact hM1
          refine X12_poss_l hS.1 P n s R (d + 40) Q ok.2.1 _ _ hb 12 0 _ J1 none rfl rfl (by rw [rs_u2_ne _ _ (by omega)]; exact q2) hMr q1 ?_
          intro I' J' fi fk
          refine hQ I' J' (RI_f h ?_ ?_ ?_ ?_ ?_ ?_) ?_ ?_
          · intro j; rw [fi 62 j (by omega), rs_u2_ne _ _ (by omega)]; exact g1 62 j (by omega) (by decide) (by decide)
          · intro j; rw [fi 63 j (by omega), rs_u2_ne _ _ (by omega)]; exact g1 63 j (by omega) (by decide) (by decide)
          · intro j; rw [fi 64 j (by omega), rs_u2_ne _ _ (by omega)]; exact g1 64 j (by omega) (by decide) (by decide)
          · intro j; rw [fi 65 j (by omega), rs_u2_ne _ _ (by omega)]; exact g1 65 j (by omega) (by decide) (by decide)
          · intro j e; rw [fi 61 j (by omega), rs_u2_ne _ _ (by omega)]; exact g1 61 j (by omega) (by decide) (by decide)
          · rw [fi 61 5 (by omega), rs_u2_eq]; exact h5
          · intro q j e; rw [fi q j (by omega), rs_u2_ne _ _ (by omega)]; exact g1 q j (by omega) (by omega) (by omega)
          · intro q j e; rw [fk q j (by omega)]; exact j1 q j (by omega) (by omega) (by omega) (by omega) (by omega)
        · rw [if_neg hy, if_neg hy] at hQ
          have hle : ¬ (fnd D r (1, 1)).1 ≤ 0 := by omega
          simp (disch := omega) only [g_X12_possible_27, g_X12_possible_28, g_X12_possible_29, g_X12_possible_30, g_X12_possible_33, g_X12_possible_34, g_X12_possible_37, g_X12_possible_38, g_X12_possible_41, g_X12_possible_44, g_X12_possible_45, g_X12_possible_48, g_X12_possible_51, lk_X12_possible, XI, Nat.reduceAdd, Nat.reduceEqDiff, not_false_eq_true, nI_T1, nI_T0, true_and, and_true, WC, WV, WU, rs_b_0, rs_b_ok2, true_or, or_true, Classical.not_not, not_true_eq_false, if_true, if_false, reduceCtorEq, nI_le0S, hy]
          refine hQ _ J1 (RI_f h ?_ ?_ ?_ ?_ ?_ (rs_u2_eq _ _ _ _)) ?_ ?_
          · intro j; rw [rs_u2_ne _ _ (by omega)]; exact g1 62 j (by omega) (by decide) (by decide)
          · intro j; rw [rs_u2_ne _ _ (by omega)]; exact g1 63 j (by omega) (by decide) (by decide)
          · intro j; rw [rs_u2_ne _ _ (by omega)]; exact g1 64 j (by omega) (by decide) (by decide)
          · intro j; rw [rs_u2_ne _ _ (by omega)]; exact g1 65 j (by omega) (by decide) (by decide)
          · intro j e; rw [rs_u2_ne _ _ (by omega)]; exact g1 61 j (by omega) (by decide) (by decide)
          · intro q j e; rw [rs_u2_ne _ _ (by omega)]; exact g1 q j (by omega) (by omega) (by omega)
          · intro q j e; exact j1 q j (by omega) (by omega) (by omega) (by omega) (by omega)
    · refine BC_same hS (.long (-9223372036854775808)) (Or.inr ⟨_, rfl⟩) (fun d P n s I J R Q h hQ => ?_) (fun d P n s I J R Q h hQ => ?_)
      · rw [em_X11_possible]
        simp (disch := omega) only [g_X11_possible_0, g_X11_possible_1, g_X11_possible_4, g_X11_possible_7, g_X11_possible_8, g_X11_possible_11, g_X11_possible_14, g_X11_possible_17, lk_X11_possible, XI, Nat.reduceAdd, Nat.reduceEqDiff, not_false_eq_true, nI_T1, nI_T0, true_and, and_true, WC, WV, WU, rs_b_0, rs_b_ok2, true_or, or_true, Classical.not_not, not_true_eq_false, if_true, if_false, reduceCtorEq, s_X11_isIngredient, s_X11_isRecipe, s_X11_isWithin, s_X11_isPart, c0, c1]
        exact hQ
      · rw [em_X12_possible]
        simp (disch := omega) only [g_X12_possible_0, g_X12_possible_1, g_X12_possible_4, g_X12_possible_7, g_X12_possible_8, g_X12_possible_9, g_X12_possible_10, g_X12_possible_13, g_X12_possible_16, g_X12_possible_19, lk_X12_possible, XI, Nat.reduceAdd, Nat.reduceEqDiff, not_false_eq_true, nI_T1, nI_T0, true_and, and_true, WC, WV, WU, rs_b_0, rs_b_ok2, true_or, or_true, Classical.not_not, not_true_eq_false, if_true, if_false, reduceCtorEq, s_X12_isIngredient, s_X12_isNumber, s_X12_in, c0, c1]
        exact hQ
  · refine BC_same hS (.long (-9223372036854775808)) (Or.inr ⟨_, rfl⟩) (fun d P n s I J R Q h hQ => ?_) (fun d P n s I J R Q h hQ => ?_)
    · rw [em_X11_possible]
      simp (disch := omega) only [g_X11_possible_0, g_X11_possible_1, g_X11_possible_4, g_X11_possible_7, g_X11_possible_8, g_X11_possible_11, g_X11_possible_14, g_X11_possible_17, lk_X11_possible, XI, Nat.reduceAdd, Nat.reduceEqDiff, not_false_eq_true, nI_T1, nI_T0, true_and, and_true, WC, WV, WU, rs_b_0, rs_b_ok2, true_or, or_true, Classical.not_not, not_true_eq_false, if_true, if_false, reduceCtorEq, s_X11_isIngredient, s_X11_isRecipe, s_X11_isWithin, s_X11_isPart, c0]
      exact hQ
    · rw [em_X12_possible]
      simp (disch := omega) only [g_X12_possible_0, g_X12_possible_1, g_X12_possible_4, g_X12_possible_7, g_X12_possible_8, g_X12_possible_9, g_X12_possible_10, g_X12_possible_13, g_X12_possible_16, g_X12_possible_19, lk_X12_possible, XI, Nat.reduceAdd, Nat.reduceEqDiff, not_false_eq_true, nI_T1, nI_T0, true_and, and_true, WC, WV, WU, rs_b_0, rs_b_ok2, true_or, or_true, Classical.not_not, not_true_eq_false, if_true, if_false, reduceCtorEq, s_X12_isIngredient, s_X12_isNumber, s_X12_in, c0]
      exact hQ
end
