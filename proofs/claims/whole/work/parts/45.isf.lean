/-! the reference finds what the plan needs -/
def hI (I I' : Nat → Nat → Int32) : Prop := ∀ q j, ¬ (q = 61 ∧ (j = 5 ∨ j = 8 ∨ j = 21)) → ¬ q = 69 → ¬ q = 70 → ¬ q = 73 → I' q j = I q j
def hJ (J J' : Nat → Nat → Int64) : Prop := ∀ q j, ¬ (q = 61 ∧ (j = 6 ∨ j = 7)) → ¬ q = 67 → ¬ q = 68 → ¬ q = 71 → ¬ q = 72 → ¬ q = 74 → ¬ q = 75 → ¬ q = 76 → ¬ q = 77 → J' q j = J q j
theorem gI_h {I I' : Nat → Nat → Int32} (h : gI I I') : hI I I' := fun q j a b c _ => h q j (by omega) b c
theorem gJ_h {J J' : Nat → Nat → Int64} (h : gJ J J') : hJ J J' := fun q j a b c e f _ _ _ _ => h q j a b c e f
theorem aI_h {I I' : Nat → Nat → Int32} (h : aI I I') : hI I I' := fun q j a b c e => h q j (by omega) e
theorem aJ_h {J J' : Nat → Nat → Int64} (h : aJ J J') : hJ J J' := fun q j a b c _ _ e f _ _ => h q j a b c e f
theorem aI_r (I : Nat → Nat → Int32) : aI I I := fun _ _ _ _ => rfl
theorem aJ_r (J : Nat → Nat → Int64) : aJ J J := fun _ _ _ _ _ _ _ => rfl
theorem aI_t {I I' I2 : Nat → Nat → Int32} (h : aI I I') (h2 : aI I' I2) : aI I I2 := fun q j a b => (h2 q j a b).trans (h q j a b)
theorem aJ_t {J J' J2 : Nat → Nat → Int64} (h : aJ J J') (h2 : aJ J' J2) : aJ J J2 := fun q j a b c e f => (h2 q j a b c e f).trans (h q j a b c e f)
theorem hI_t {I I' I2 : Nat → Nat → Int32} (h : hI I I') (h2 : hI I' I2) : hI I I2 := fun q j a b c e => (h2 q j a b c e).trans (h q j a b c e)
theorem hJ_t {J J' J2 : Nat → Nat → Int64} (h : hJ J J') (h2 : hJ J' J2) : hJ J J2 := fun q j a b c e f g i k l => (h2 q j a b c e f g i k l).trans (h q j a b c e f g i k l)
theorem sbo1_TA {D : Dt} {k : Nat} {t : Sb} {S T : Nat → Nat × Nat} {A : Nat} (h : ∀ j, k ≤ j → A.testBit j = false ∧ T j = (0, 1)) : ∀ j, k + 1 ≤ j → (sbo1 D k t S T A).2.2.2.testBit j = false ∧ (sbo1 D k t S T A).2.2.1 j = (0, 1) := by
  intro j hj
  have h0 := h j (by omega)
  have hb : (A ||| 2 ^ k).testBit j = false := by rw [Nat.testBit_or, h0.1, Nat.testBit_two_pow, decide_eq_false (by omega)]; rfl
  have hu : ∀ w, upS T k w j = (0, 1) := fun w => by rw [upS_ne _ _ (by omega)]; exact h0.2
  unfold sbo1
  split
  · cases hw : fr ((S t.x).1 - kep D t * (S t.x).2) (S t.x).2 with
    | none => exact h0
    | some w =>
      dsimp only
      cases adO (S t.y) (omul (some w) (fr t.up t.dn)) with
      | none => exact ⟨hb, hu w⟩
      | some p => exact ⟨hb, hu w⟩
  · exact h0
/-- why a plan's needs can't be found; 0 they can -/
def whyP (D : Dt) (p : Nat × (Nat × Nat)) : Nat := if (fnd D p.1 p.2).1 = 0 then (rpl D (fnd D p.1 p.2).2.1).1 else (fnd D p.1 p.2).1
theorem whyP_le {D : Dt} (hD : D.ok) {p : Nat × (Nat × Nat)} (hp : isF p.2) : whyP D p ≤ 6 := by
  have ok := fnd_ok hD p.1 hp
  have o2 := (rpl_ok hD ok.2.1).2
  unfold whyP
  split
  · omega
  · exact ok.1
section
variable (P : Nat → Option rs_C) (n s : Nat) (R : Nat → Nat → Option Nat) (d : Nat) (Q : rs_H → Option Value → Prop)
theorem X12_isF_x (I : Nat → Nat → Int32) (J : Nat → Nat → Int64) {len : Nat} (h408 : I 62 408 = nI len) (hl : len ≤ 6) {k y : Nat} (hk : k ≤ 7) (hy : ¬ y = 0) (hy6 : y ≤ 6) : rs_X d yX12_isFound 71 [some (.ref 61), some (.int (nI y)), some (.int (nI k))] [] (sk_w P n s I J R) Q ↔ rs_X d yX12_isFound 99 [some (.ref 61), some (.int (nI y)), some (.int (nI k))] [] (sk_w P n s I J R) Q := by
  rw [g_X12_isFound_71]
  simp (disch := omega) only [g_X12_isFound_72, g_X12_isFound_73, g_X12_isFound_76, g_X12_isFound_79, g_X12_isFound_80, g_X12_isFound_83, g_X12_isFound_84, lk_X12_isFound, XI, Nat.reduceAdd, Nat.reduceEqDiff, not_false_eq_true, nI_T1, nI_T0, true_and, and_true, WC, WV, WU, nI_cl, rs_in_t, h408, nI_leS, nI_eq0S, hy, not_false_eq_true, if_true]
  by_cases h : len ≤ k
  · rw [if_pos h]
  · rw [if_neg h]
theorem X12_isF_e (I : Nat → Nat → Int32) (J : Nat → Nat → Int64) {y : Nat} (hy6 : y ≤ 6) (z : Option Value) : rs_X d yX12_isFound 99 [some (.ref 61), some (.int (nI y)), z] [] (sk_w P n s I J R) Q ↔ Q (sk_w P n s (rs_u2 I 61 5 (if y = 0 then I 61 5 else nI y)) J R) (some (.int (rs_b (y = 0)))) := by
  by_cases h : y = 0
  · subst h
    rw [rs_b_t rfl, if_pos rfl]
    simp (disch := omega) only [g_X12_isFound_99, g_X12_isFound_100, g_X12_isFound_101, g_X12_isFound_104, g_X12_isFound_105, g_X12_isFound_108, g_X12_isFound_109, g_X12_isFound_112, g_X12_isFound_115, g_X12_isFound_116, g_X12_isFound_119, g_X12_isFound_120, g_X12_isFound_123, g_X12_isFound_124, lk_X12_isFound, XI, Nat.reduceAdd, Nat.reduceEqDiff, not_false_eq_true, nI_T1, nI_T0, true_and, and_true, WC, WV, WU, nI_le0S, if_true, nI_00, not_true_eq_false, if_false]
  · rw [rs_b_f h, if_neg h]
    simp (disch := omega) only [g_X12_isFound_99, g_X12_isFound_100, g_X12_isFound_101, g_X12_isFound_104, g_X12_isFound_105, g_X12_isFound_108, g_X12_isFound_109, g_X12_isFound_112, g_X12_isFound_115, g_X12_isFound_116, g_X12_isFound_119, g_X12_isFound_120, g_X12_isFound_123, g_X12_isFound_124, lk_X12_isFound, XI, Nat.reduceAdd, Nat.reduceEqDiff, not_false_eq_true, nI_T1, nI_T0, true_and, and_true, WC, WV, WU, nI_le0S, h, if_false, nI_eq0S, not_false_eq_true, if_true, true_or, or_true]
theorem X12_isF_l {D : Dt} (hD : D.ok) : ∀ (m k : Nat) (I : Nat → Nat → Int32) (J : Nat → Nat → Int64) (S T : Nat → Nat × Nat) (A : Nat), k + m = D.sb.length → mDt (I 62) D → stOk S → mS J 67 68 12 S → I 61 8 = nI 0 → mTA I J k T A → (∀ j, k ≤ j → A.testBit j = false ∧ T j = (0, 1)) → A < 64 →
    (∀ I' J' z, aI I I' → aJ J J' → ((sboL D (D.sb.drop k) k S T A).1 = 0 → mS J' 67 68 12 (sboL D (D.sb.drop k) k S T A).2.1 ∧ I' 61 8 = nI 0 ∧ mTA I' J' D.sb.length (sboL D (D.sb.drop k) k S T A).2.2.1 (sboL D (D.sb.drop k) k S T A).2.2.2) → rs_X (d + 4) yX12_isFound 99 [some (.ref 61), some (.int (nI (sboL D (D.sb.drop k) k S T A).1)), some (.int z)] [] (sk_w P n s I' J' R) Q) →
    rs_X (d + 4) yX12_isFound 71 [some (.ref 61), some (.int (nI 0)), some (.int (nI k))] [] (sk_w P n s I J R) Q := by
  intro m
  induction m with
  | zero =>
    intro k I J S T A hk hM hS hm h8 hTA hz hA hc
    have e : D.sb.drop k = [] := List.drop_eq_nil_iff.mpr (by omega)
    have hl := hD.2.2.1
    rw [e, sboL_n] at hc
    have hkl : k = D.sb.length := by omega
    subst hkl
    rw [g_X12_isFound_71]
    simp (disch := omega) only [g_X12_isFound_72, g_X12_isFound_73, g_X12_isFound_76, g_X12_isFound_79, g_X12_isFound_80, g_X12_isFound_83, g_X12_isFound_84, lk_X12_isFound, XI, Nat.reduceAdd, Nat.reduceEqDiff, not_false_eq_true, nI_T1, nI_T0, true_and, and_true, WC, WV, WU, nI_cl, rs_in_t, hM.2.2.1, nI_leS, Nat.le_refl, if_true]
    exact hc I J _ (aI_r I) (aJ_r J) (fun _ => ⟨hm, h8, hTA⟩)
  | succ m ih =>
    intro k I J S T A hk hM hS hm h8 hTA hz hA hc
    have hl := hD.2.2.1
    have hs : ∃ t, D.sb[k]? = some t := ⟨_, List.getElem?_eq_getElem (by omega)⟩
    obtain ⟨t, hs⟩ := hs
    have e : D.sb.drop k = t :: D.sb.drop (k + 1) := by
      obtain ⟨h1, h2⟩ := List.getElem?_eq_some_iff.mp hs
      rw [← h2]
      exact List.drop_eq_getElem_cons h1
    have hk6 : k < 6 := by omega
    rw [g_X12_isFound_71]
    simp (disch := omega) only [g_X12_isFound_72, g_X12_isFound_73, g_X12_isFound_76, g_X12_isFound_79, g_X12_isFound_80, g_X12_isFound_83, g_X12_isFound_84, g_X12_isFound_87, g_X12_isFound_88, g_X12_isFound_89, lk_X12_isFound, XI, Nat.reduceAdd, Nat.reduceEqDiff, not_false_eq_true, nI_T1, nI_T0, true_and, and_true, WC, WV, WU, nI_cl, rs_in_t, hM.2.2.1, nI_leS, nI_00, not_true_eq_false, if_false]
    rw [if_neg (by omega)]
    refine s_apply P n s I J R _ _ hM hD hS hm h8 hk6 hs hTA (hz k (Nat.le_refl k)).1 (hz k (Nat.le_refl k)).2 ?_
    intro I1 J1 a1 b1 c1
    have ok := sbo1_ok hD (hD.2.2.2.1 k t hs) hk6 (T := T) hS hA
    have hz1 := sbo1_TA (D := D) (t := t) (S := S) hz
    rw [e, sboL_c] at hc
    generalize sbo1 D k t S T A = z at ok hc c1 hz1 ⊢
    obtain ⟨z1, z2, z3, z4⟩ := z
    dsimp only at ok hc c1 hz1 ⊢
    have i62 : I1 62 = I 62 := funext fun j => a1 62 j (by omega) (by decide)
    have hM1 : mDt (I1 62) D := by rw [i62]; exact hM
    simp (disch := omega) only [g_X12_isFound_92, g_X12_isFound_93, g_X12_isFound_96, lk_X12_isFound, XI, Nat.reduceAdd, Nat.reduceEqDiff, not_false_eq_true, nI_T1, nI_T0, true_and, and_true, WC, WV, WU, nI_addS]
    rcases ok.2.2 with o | o
    · subst o
      rw [if_pos rfl] at hc
      obtain ⟨q1, q2, q3⟩ := c1 rfl
      refine ih (k + 1) I1 J1 z2 z3 z4 (by omega) hM1 ok.1 q1 q2 q3 hz1 ok.2.1 ?_
      intro I' J' z a2 b2 c2
      exact hc I' J' z (aI_t a1 a2) (aJ_t b1 b2) c2
    · subst o
      rw [if_neg (by decide)] at hc
      rw [X12_isF_x P n s R _ _ I1 J1 hM1.2.2.1 hl (show k + 1 ≤ 7 by omega) (show ¬ 5 = 0 by decide) (show 5 ≤ 6 by decide)]
      exact hc I1 J1 _ a1 b1 (fun z => by cases z)
/-- what was found is laid aside -/
def JA (J : Nat → Nat → Int64) (k : Nat) : Nat → Nat → Int64 := cpU (cpU J 76 0 k fun i => J 67 i) 77 0 k fun i => J 68 i
theorem X12_isF_c (I : Nat → Nat → Int32) (J : Nat → Nat → Int64) (z1 : Int32) : ∀ (m k : Nat), k + m = 12 → rs_X d yX12_isFound 69 [some (.ref 61), some (.int z1), some (.int (nI 12))] [] (sk_w P n s I (JA J 12) R) Q →
    rs_X d yX12_isFound 33 [some (.ref 61), some (.int z1), some (.int (nI k))] [] (sk_w P n s I (JA J k) R) Q := by
  intro m
  induction m with
  | zero =>
    intro k hk h
    have : k = 12 := by omega
    subst this
    rw [g_X12_isFound_33]
    simp (disch := omega) only [g_X12_isFound_34, g_X12_isFound_36, g_X12_isFound_39, g_X12_isFound_40, g_X12_isFound_43, g_X12_isFound_44, g_X12_isFound_45, g_X12_isFound_48, g_X12_isFound_49, g_X12_isFound_50, g_X12_isFound_51, g_X12_isFound_52, g_X12_isFound_55, g_X12_isFound_56, g_X12_isFound_57, g_X12_isFound_60, g_X12_isFound_61, g_X12_isFound_62, g_X12_isFound_63, g_X12_isFound_66, lk_X12_isFound, XI, Nat.reduceAdd, Nat.reduceEqDiff, not_false_eq_true, nI_T1, nI_T0, true_and, and_true, WC, WV, WU, nI_leS, Nat.le_refl, if_true]
    exact h
  | succ m ih =>
    intro k hk h
    rw [g_X12_isFound_33]
    simp (disch := omega) only [g_X12_isFound_34, g_X12_isFound_36, g_X12_isFound_39, g_X12_isFound_40, g_X12_isFound_43, g_X12_isFound_44, g_X12_isFound_45, g_X12_isFound_48, g_X12_isFound_49, g_X12_isFound_50, g_X12_isFound_51, g_X12_isFound_52, g_X12_isFound_55, g_X12_isFound_56, g_X12_isFound_57, g_X12_isFound_60, g_X12_isFound_61, g_X12_isFound_62, g_X12_isFound_63, g_X12_isFound_66, lk_X12_isFound, XI, Nat.reduceAdd, Nat.reduceEqDiff, not_false_eq_true, nI_T1, nI_T0, true_and, and_true, WC, WV, WU, nI_leS, nI_addS, nI_cl, rs_in_t]
    rw [if_neg (by omega)]
    have a67 : JA J k 67 k = J 67 k := by unfold JA; rw [cpU_ne _ _ _ _ _ _ (by decide), cpU_ne _ _ _ _ _ _ (by decide)]
    have a68 : rs_u2 (JA J k) 76 k (J 67 k) 68 k = J 68 k := by rw [rs_u2_ne _ _ (by omega)]; unfold JA; rw [cpU_ne _ _ _ _ _ _ (by decide), cpU_ne _ _ _ _ _ _ (by decide)]
    have e : rs_u2 (rs_u2 (JA J k) 76 k (J 67 k)) 77 k (J 68 k) = JA J (k + 1) := by
      unfold JA
      rw [cpU_c _ _ _ _ _ _ _ (by decide), cpU_s J 76 0 k (fun i => J 67 i) (Nat.zero_le k) rfl, cpU_s _ 77 0 k (fun i => J 68 i) (Nat.zero_le k) rfl]
    rw [a67, a68, e]
    exact ih (k + 1) (by omega) h
theorem s_isFound {I : Nat → Nat → Int32} {J : Nat → Nat → Int64} {Q : rs_H → Option Value → Prop} {D : Dt} (hM : mDt (I 62) D) (hD : D.ok) {p : Nat × (Nat × Nat)} (hp : D.pl = some p)
    (hQ : ∀ I' J', hI I I' → hJ J J' → I' 61 5 = (if whyP D p = 0 then I 61 5 else nI (whyP D p)) → (whyP D p = 0 → mS J' 76 77 12 (fnd D p.1 p.2).2.1 ∧ mS J' 67 68 12 (rpl D (fnd D p.1 p.2).2.1).2.1 ∧ I' 61 8 = nI 0 ∧ mTA I' J' D.sb.length (rpl D (fnd D p.1 p.2).2.1).2.2.1 (rpl D (fnd D p.1 p.2).2.1).2.2.2) → Q (sk_w P n s I' J' R) (some (.int (rs_b (whyP D p = 0))))) : rs_XM (d + 5) yX12_isFound [.ref 61] (sk_w P n s I J R) Q := by
  obtain ⟨p8, pF, p1⟩ := hD.2.2.2.2 p.1 p.2 hp
  have hpl := hM.2.2.2.2
  rw [hp] at hpl
  obtain ⟨l0, l1, l2⟩ : I 62 445 = nI p.1 ∧ I 62 446 = nI p.2.1 ∧ I 62 447 = nI p.2.2 := hpl
  have ok := fnd_ok hD p.1 pF
  have o1 := ok.1
  rw [em_X12_isFound]
  simp (disch := omega) only [g_X12_isFound_0, g_X12_isFound_1, g_X12_isFound_2, g_X12_isFound_5, g_X12_isFound_8, g_X12_isFound_9, g_X12_isFound_10, g_X12_isFound_13, g_X12_isFound_16, g_X12_isFound_17, g_X12_isFound_18, g_X12_isFound_19, g_X12_isFound_22, g_X12_isFound_25, g_X12_isFound_26, g_X12_isFound_27, lk_X12_isFound, XI, Nat.reduceAdd, Nat.reduceEqDiff, not_false_eq_true, nI_T1, nI_T0, true_and, and_true, WC, WV, WU, nI_cl, rs_in_t, l0, l1, l2, nI_long pF.1, nI_long pF.2.2.1]
  refine s_findNeed P n s R _ hM hD p8 pF ?_
  intro I1 J1 g1 j1 c1
  simp (disch := omega) only [g_X12_isFound_30, g_X12_isFound_31, g_X12_isFound_32, lk_X12_isFound, XI, Nat.reduceAdd, Nat.reduceEqDiff, not_false_eq_true, nI_T1, nI_T0, true_and, and_true, WC, WV, WU]
  have e2 : JA J1 0 = J1 := by unfold JA; rw [cpU_0, cpU_0]
  rw [← e2]
  refine X12_isF_c P n s R _ Q I1 J1 _ 12 0 rfl ?_
  have jA : hJ J1 (JA J1 12) := fun q j a b c e f g i k l => by unfold JA; rw [cpU_ne _ _ _ _ _ _ l, cpU_ne _ _ _ _ _ _ k]
  have jh := hJ_t (gJ_h j1) jA
  have ih := gI_h g1
  have i5 : I1 61 5 = I 61 5 := g1 61 5 (by omega) (by decide) (by decide)
  have hM1 := gI_m g1 hM
  unfold whyP at hQ
  simp (disch := omega) only [g_X12_isFound_69, g_X12_isFound_70, lk_X12_isFound, XI, Nat.reduceAdd, Nat.reduceEqDiff, not_false_eq_true, nI_T1, nI_T0, true_and, and_true, WC, WV, WU]
  by_cases h0 : (fnd D p.1 p.2).1 = 0
  · obtain ⟨q1, q2⟩ := c1 h0
    rw [if_pos h0] at hQ
    rw [h0]
    have mA : mS (JA J1 12) 67 68 12 (fnd D p.1 p.2).2.1 := fun i hi => by
      unfold JA
      rw [cpU_ne _ _ _ _ _ _ (by decide), cpU_ne _ _ _ _ _ _ (by decide), cpU_ne _ _ _ _ _ _ (by decide), cpU_ne _ _ _ _ _ _ (by decide)]
      exact q1 i hi
    refine X12_isF_l P n s R (d + 1) Q hD D.sb.length 0 I1 (JA J1 12) _ S00 0 (Nat.zero_add _) hM1 ok.2.1 mA q2 (fun j hj => absurd hj (Nat.not_lt_zero j)) (fun j _ => ⟨Nat.zero_testBit j, rfl⟩) (by decide) ?_
    intro I2 J2 z a2 b2 c2
    have eR : sboL D (D.sb.drop 0) 0 (fnd D p.1 p.2).2.1 S00 0 = rpl D (fnd D p.1 p.2).2.1 := rfl
    rw [eR] at c2 ⊢
    have o2 := (rpl_ok hD ok.2.1).2
    rw [X12_isF_e P n s R _ Q I2 J2 (show (rpl D (fnd D p.1 p.2).2.1).1 ≤ 6 by omega)]
    have ih2 := hI_t ih (aI_h a2)
    have jh2 := hJ_t jh (aJ_h b2)
    refine hQ _ J2 ?_ jh2 ?_ ?_
    · intro q j a b c e
      rw [rs_u2_ne _ _ (by omega)]
      exact ih2 q j a b c e
    · rw [rs_u2_eq, a2 61 5 (by omega) (by decide), i5]
    · intro hy
      obtain ⟨r1, r2, r3⟩ := c2 hy
      refine ⟨?_, r1, ?_, ?_⟩
      · intro i hi
        rw [b2 76 i (by omega) (by decide) (by decide) (by decide) (by decide), b2 77 i (by omega) (by decide) (by decide) (by decide) (by decide)]
        unfold JA
        rw [cpU_ne _ _ _ _ _ _ (by decide), cpU_in _ _ _ _ _ (Nat.zero_le i) hi, cpU_in _ _ _ _ _ (Nat.zero_le i) hi]
        exact q1 i hi
      · rw [rs_u2_ne _ _ (by omega)]
        exact r2
      · intro j hj
        rw [rs_u2_ne _ _ (by omega)]
        exact r3 j hj
  · rw [if_neg h0] at hQ
    rw [X12_isF_x P n s R _ _ I1 (JA J1 12) hM1.2.2.1 hD.2.2.1 (show 0 ≤ 7 by decide) h0 o1, X12_isF_e P n s R _ Q I1 (JA J1 12) o1]
    refine hQ _ _ ?_ jh ?_ (fun z => absurd z h0)
    · intro q j a b c e
      rw [rs_u2_ne _ _ (by omega)]
      exact ih q j a b c e
    · rw [rs_u2_eq, i5]
end
