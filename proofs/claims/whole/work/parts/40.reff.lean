/-! the reference finds what a recipe needs -/
/-- the loop's law with so much fuel -/
def NL (P : Nat → Option rs_C) (n s : Nat) (R : Nat → Nat → Option Nat) (d : Nat) (D : Dt) (m : Nat) : Prop := ∀ (rest : List It) (h k c op : Nat) (rid pos : Nat → Nat) (fc : Nat → Nat × Nat) (Z : Rc) (I : Nat → Nat → Int32) (J : Nat → Nat → Int64) (Q : rs_H → Option Value → Prop) (x0 : Int32) (x1 x2 : Int64) (z8 z9 z10 : Option Value) (S : Nat → Nat × Nat), m + h = 7 → mDt (I 62) D → HV I J (h + 1) rid pos fc S → pos h = k → D.rc (rid h) = some Z → Z.its.drop k = rest → k ≤ Z.its.length → isF (fc h) → stOk S → c ≤ 300 → op < 256 → (∀ r, r < 8 → op.testBit r = inH rid (h + 1) r) → pc8 op = h + 1 →
    (∀ I' J' S' c' z8 z9 z10, gI I I' → gJ J J' → HV I' J' h rid pos fc S' → stOk S' → c' ≤ 300 → wkL D (fun r Z2 f2 z2 => wk D m (op ||| 2 ^ r) Z2 f2 z2) op (fc h) rest (S, c) = (0, (S', c')) → rs_X (d + 4) yX12_findNeed 66 [some (.ref 61), some (.int x0), some (.long x1), none, some (.long x2), none, some (.int (nI c')), some (.int (nI 0)), z8, z9, z10] [] (sk_w P n s I' J' R) Q) →
    (∀ I' J' y, gI I I' → gJ J J' → ¬ y = 0 → (wkL D (fun r Z2 f2 z2 => wk D m (op ||| 2 ^ r) Z2 f2 z2) op (fc h) rest (S, c)).1 = y → Q (sk_w P n s I' J' R) (some (.int (nI y)))) →
    rs_X (d + 4) yX12_findNeed 66 [some (.ref 61), some (.int x0), some (.long x1), none, some (.long x2), none, some (.int (nI c)), some (.int (nI 0)), z8, z9, z10] [] (sk_w P n s I J R) Q
section
variable (P : Nat → Option rs_C) (n s : Nat) (R : Nat → Nat → Option Nat) (d : Nat)
theorem NL_all {D : Dt} (hD : D.ok) : ∀ m, NL P n s R d D m
  | 0 => X12_need_l P n s R d hD (fun _ _ _ _ _ _ _ _ _ _ _ _ _ _ _ _ _ _ _ e => absurd e (by decide))
  | m + 1 => X12_need_l P n s R d hD (fun rest h k c op rid pos fc Z I J Q x0 x1 x2 z8 z9 z10 S _ => NL_all hD m rest h k c op rid pos fc Z I J Q x0 x1 x2 z8 z9 z10 S)
theorem cpU_c {α : Type} (J : Nat → Nat → α) (a lo hi : Nat) (f : Nat → α) {a' : Nat} (i : Nat) (v : α) (h : ¬ a' = a) : rs_u2 (cpU J a lo hi f) a' i v = cpU (rs_u2 J a' i v) a lo hi f := by
  funext x j
  unfold cpU rs_u2
  dsimp only
  by_cases h1 : x = a'
  · have h2 : ¬ (x = a ∧ lo ≤ j ∧ j < hi) := fun z => h (h1 ▸ z.1)
    rw [if_neg h2, if_neg h2]
  · rw [if_neg h1, if_neg h1]
theorem pc8_1 : ∀ r, r < 8 → pc8 (2 ^ r) = 1 := by decide +kernel
/-- nothing is needed yet -/
def J0k (J : Nat → Nat → Int64) (k : Nat) : Nat → Nat → Int64 := cpU (cpU J 67 0 k fun _ => lN 0) 68 0 k fun _ => lN 1
theorem X12_clear_l (I : Nat → Nat → Int32) (J : Nat → Nat → Int64) (Q : rs_H → Option Value → Prop) (x0 : Int32) (x1 x2 : Int64) (z7 z8 z9 z10 : Option Value) : ∀ (m k : Nat), k + m = 12 → rs_X d yX12_findNeed 32 [some (.ref 61), some (.int x0), some (.long x1), none, some (.long x2), none, some (.int (nI 12)), z7, z8, z9, z10] [] (sk_w P n s I (J0k J 12) R) Q →
    rs_X d yX12_findNeed 3 [some (.ref 61), some (.int x0), some (.long x1), none, some (.long x2), none, some (.int (nI k)), z7, z8, z9, z10] [] (sk_w P n s I (J0k J k) R) Q := by
  intro m
  induction m with
  | zero =>
    intro k hk h
    have : k = 12 := by omega
    subst this
    rw [g_X12_findNeed_3]
    simp (disch := omega) only [g_X12_findNeed_5, g_X12_findNeed_7, g_X12_findNeed_10, g_X12_findNeed_11, g_X12_findNeed_14, g_X12_findNeed_16, g_X12_findNeed_17, g_X12_findNeed_18, g_X12_findNeed_19, g_X12_findNeed_22, g_X12_findNeed_24, g_X12_findNeed_25, g_X12_findNeed_26, g_X12_findNeed_29, lk_X12_findNeed, XI, Nat.reduceAdd, Nat.reduceEqDiff, not_false_eq_true, nI_T1, nI_T0, true_and, and_true, WC, WV, WU, nI_leS, Nat.le_refl, if_true]
    exact h
  | succ m ih =>
    intro k hk h
    rw [g_X12_findNeed_3]
    simp (disch := omega) only [g_X12_findNeed_5, g_X12_findNeed_7, g_X12_findNeed_10, g_X12_findNeed_11, g_X12_findNeed_14, g_X12_findNeed_16, g_X12_findNeed_17, g_X12_findNeed_18, g_X12_findNeed_19, g_X12_findNeed_22, g_X12_findNeed_24, g_X12_findNeed_25, g_X12_findNeed_26, g_X12_findNeed_29, lk_X12_findNeed, XI, Nat.reduceAdd, Nat.reduceEqDiff, not_false_eq_true, nI_T1, nI_T0, true_and, and_true, WC, WV, WU, nI_leS, nI_addS, nI_cl, rs_in_t]
    rw [if_neg (by omega)]
    have e : rs_u2 (rs_u2 (J0k J k) 67 k (lN 0)) 68 k (lN 1) = J0k J (k + 1) := by
      unfold J0k
      rw [cpU_c _ _ _ _ _ _ _ (by decide), cpU_s J 67 0 k (fun _ => lN 0) (Nat.zero_le k) rfl, cpU_s _ 68 0 k (fun _ => lN 1) (Nat.zero_le k) rfl]
    rw [e]
    exact ih (k + 1) (by omega) h
theorem s_findNeed {I : Nat → Nat → Int32} {J : Nat → Nat → Int64} {Q : rs_H → Option Value → Prop} {D : Dt} (hM : mDt (I 62) D) (hD : D.ok) {r : Nat} (hr : r < 8) {f : Nat × Nat} (hf : isF f) (hQ : ∀ I' J', gI I I' → gJ J J' → ((fnd D r f).1 = 0 → mS J' 67 68 12 (fnd D r f).2.1 ∧ I' 61 8 = nI 0) → Q (sk_w P n s I' J' R) (some (.int (nI (fnd D r f).1)))) : rs_XM (d + 4) yX12_findNeed [.ref 61, .int (nI r), .long (lN f.1), .long (lN f.2)] (sk_w P n s I J R) Q := by
  rw [em_X12_findNeed]
  simp (disch := omega) only [g_X12_findNeed_0, g_X12_findNeed_1, lk_X12_findNeed, XI, Nat.reduceAdd, Nat.reduceEqDiff, not_false_eq_true, nI_T1, nI_T0, true_and, and_true, WC, WV, WU]
  have z0 : J0k J 0 = J := by unfold J0k; rw [cpU_0, cpU_0]
  rw [← z0]
  refine X12_clear_l P n s R _ I J Q _ _ _ _ _ _ _ 12 0 rfl ?_
  have gJ1 : gJ J (J0k J 12) := fun q j a b c _ _ => by unfold J0k; rw [cpU_ne _ _ _ _ _ _ c, cpU_ne _ _ _ _ _ _ b]
  have mS1 : mS (J0k J 12) 67 68 12 S00 := fun i hi => by
    unfold J0k
    rw [cpU_ne _ _ _ _ _ _ (by decide), cpU_in _ _ _ _ _ (Nat.zero_le i) hi, cpU_in _ _ _ _ _ (Nat.zero_le i) hi]
    exact ⟨rfl, rfl⟩
  simp (disch := omega) only [g_X12_findNeed_32, g_X12_findNeed_33, g_X12_findNeed_34, g_X12_findNeed_37, g_X12_findNeed_38, g_X12_findNeed_39, g_X12_findNeed_42, g_X12_findNeed_43, g_X12_findNeed_45, g_X12_findNeed_46, g_X12_findNeed_47, g_X12_findNeed_50, lk_X12_findNeed, XI, Nat.reduceAdd, Nat.reduceEqDiff, not_false_eq_true, nI_T1, nI_T0, true_and, and_true, WC, WV, WU, s_X12_isThere _ _ _ _ _ _ _ _ hr, rs_b_0, rs_u2_ne]
  have gI1 : gI I (rs_u2 (rs_u2 I 61 8 (nI 0)) 61 21 (nI 0)) := fun q j a b c => by rw [rs_u2_ne _ _ (by omega), rs_u2_ne _ _ (by omega)]
  have hrc := hM.1 r hr
  unfold fnd at hQ
  cases hz : D.rc r with
  | none =>
    rw [hz] at hQ hrc
    have e1 : I 62 (30 * r) = nI 0 := hrc.1
    rw [e1]
    simp (disch := omega) only [g_X12_findNeed_53, g_X12_findNeed_54, lk_X12_findNeed, XI, Nat.reduceAdd, Nat.reduceEqDiff, not_false_eq_true, nI_T1, nI_T0, true_and, and_true, WC, WV, WU, nI_eqS, Nat.reduceEqDiff, not_false_eq_true, not_true_eq_false, if_true, if_false]
    exact hQ _ _ gI1 gJ1 (fun z => by cases z)
  | some Z =>
    rw [hz] at hQ hrc
    have e1 : I 62 (30 * r) = nI 1 := hrc.1
    rw [e1]
    simp (disch := omega) only [g_X12_findNeed_55, g_X12_findNeed_56, g_X12_findNeed_57, g_X12_findNeed_58, g_X12_findNeed_60, g_X12_findNeed_63, g_X12_findNeed_64, lk_X12_findNeed, XI, Nat.reduceAdd, Nat.reduceEqDiff, not_false_eq_true, nI_T1, nI_T0, true_and, and_true, WC, WV, WU, not_true_eq_false, not_false_eq_true, if_true, if_false, s_takeInHand P n s _ _ R _ _ (show 0 < 9 by decide) (rs_u2_eq _ _ _ _)]
    dsimp only at hQ
    have gI3 : gI I (rs_u2 (rs_u2 (rs_u2 (rs_u2 (rs_u2 I 61 8 (nI 0)) 61 21 (nI 0)) 69 0 (nI r)) 70 0 (nI 0)) 61 21 (nI 1)) := gI_u21 (gI_u70 (gI_u69 gI1 _ _) _ _) _
    have gJ3 : gJ J (rs_u2 (rs_u2 (J0k J 12) 71 0 (lN f.1)) 72 0 (lN f.2)) := gJ_u72 (gJ_u71 gJ1 _ _) _ _
    have hV : HV (rs_u2 (rs_u2 (rs_u2 (rs_u2 (rs_u2 I 61 8 (nI 0)) 61 21 (nI 0)) 69 0 (nI r)) 70 0 (nI 0)) 61 21 (nI 1)) (rs_u2 (rs_u2 (J0k J 12) 71 0 (lN f.1)) 72 0 (lN f.2)) (0 + 1) (fun _ => r) (fun _ => 0) (fun _ => f) S00 := by
      refine ⟨rs_u2_eq _ _ _ _, ?_, ?_, ?_⟩
      · intro j hj
        have e : j = 0 := by omega
        subst e
        refine ⟨⟨?_, hr⟩, ?_, ?_, rs_u2_eq _ _ _ _⟩
        · rw [rs_u2_ne _ _ (by omega), rs_u2_ne _ _ (by omega), rs_u2_eq]
        · rw [rs_u2_ne _ _ (by omega), rs_u2_eq]
        · rw [rs_u2_ne _ _ (by omega), rs_u2_eq]
      · intro j hj
        rw [rs_u2_ne _ _ (by omega), rs_u2_ne _ _ (by omega), rs_u2_ne _ _ (by omega), rs_u2_ne _ _ (by omega)]
        exact mS1 j hj
      · rw [rs_u2_ne _ _ (by omega), rs_u2_ne _ _ (by omega), rs_u2_ne _ _ (by omega), rs_u2_ne _ _ (by omega), rs_u2_eq]
    have ho : 2 ^ r < 2 ^ 8 := Nat.pow_lt_pow_right (by decide) hr
    have hop : ∀ r2, r2 < 8 → (2 ^ r).testBit r2 = inH (fun _ => r) (0 + 1) r2 := by
      intro r2 h2
      rw [inH_s, inH_0, Nat.testBit_two_pow, Bool.false_or]
    refine NL_all P n s R d hD 7 Z.its 0 0 0 (2 ^ r) (fun _ => r) (fun _ => 0) (fun _ => f) Z _ _ Q _ _ _ _ _ _ S00 rfl (gI_m gI3 hM) hV rfl hz rfl (Nat.zero_le _) hf S00_ok (by decide) ho hop (pc8_1 r hr) ?_ ?_
    · intro I' J' S' c' y8 y9 y10 gi gj hv hs hc e
      have eW : wk D 8 (2 ^ r) Z f (S00, 0) = (0, (S', c')) := e
      rw [eW] at hQ
      rw [g_X12_findNeed_66]
      simp (disch := omega) only [g_X12_findNeed_67, g_X12_findNeed_70, lk_X12_findNeed, g_X12_findNeed_205, g_X12_findNeed_207, lk_X12_findNeed, XI, Nat.reduceAdd, Nat.reduceEqDiff, not_false_eq_true, nI_T1, nI_T0, true_and, and_true, WC, WV, WU, hv.1, nI_le0S, if_true]
      exact hQ I' J' (gI_t gI3 gi) (gJ_t gJ3 gj) (fun _ => ⟨hv.2.2.1, hv.2.2.2⟩)
    · intro I' J' y gi gj hy e
      have eW : (wk D 8 (2 ^ r) Z f (S00, 0)).1 = y := e
      have q := hQ I' J' (gI_t gI3 gi) (gJ_t gJ3 gj) (fun z => absurd (eW.symm.trans z) hy)
      rw [eW] at q
      exact q
end
