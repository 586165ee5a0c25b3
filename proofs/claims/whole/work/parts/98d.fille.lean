/-! the class's whole shopping; the reference's -/
theorem fF_t {I I' I2 : Nat → Nat → Int32} (h : fF I I') (h2 : fF I' I2) : fF I I2 := fun q j a b => (h2 q j a b).trans (h q j a b)
theorem fG_t {J J' J2 : Nat → Nat → Int64} (h : fG J J') (h2 : fG J' J2) : fG J J2 := fun q j a b => (h2 q j a b).trans (h q j a b)
section
variable (P : Nat → Option rs_C) (n s : Nat) (R : Nat → Nat → Option Nat) (d : Nat) (Q : rs_H → Option Value → Prop)
theorem X6_fill_l {b q : Nat} {D : Dt} (hq : cSt P b q D) (hD : D.ok) {w : Nat → Nat × Nat × Nat × Nat} (hw : chs D w) (I0 : Nat → Nat → Int32) (J0 : Nat → Nat → Int64) (hJ : ∀ i, i < 12 → J0 49 i = pkF (aftD D i)) (hQ : ∀ I' J', fF I0 I' → fG J0 J' → cA D w I' 12 → Q (sk_w P n s I' J' R) none) :
    ∀ (m k : Nat) (I : Nat → Nat → Int32) (J : Nat → Nat → Int64) (z4 : Option Value), k + m = 12 → fF I0 I → fG J0 J → cA D w I k → rs_X (d + 5) yX6_fill 27 [some (.ref 56), some (.ref q), some (.ref 48), some (.int (nI k)), z4] [] (sk_w P n s I J R) Q := by
  intro m
  induction m with
  | zero =>
    intro k I J z4 hk fi fj hA
    have : k = 12 := by omega
    subst this
    rw [g_X6_fill_27]
    simp (disch := omega) only [g_X6_fill_28, g_X6_fill_29, g_X6_fill_32, g_X6_fill_33, lk_X6_fill, g_X6_fill_76, lk_X6_fill, XI, Nat.reduceAdd, Nat.reduceEqDiff, not_false_eq_true, nI_T1, nI_T0, true_and, and_true, WC, WV, WU, nI_leS, Nat.le_refl, if_true]
    exact hQ I J fi fj hA
  | succ m ih =>
    intro k I J z4 hk fi fj hA
    have hk12 : k < 12 := by omega
    obtain ⟨y, hy, cy⟩ := g_ingredientAt hq hk12
    have e49 : J 49 k = pkF (aftD D k) := by rw [fj 49 k (by decide) (by decide)]; exact hJ k hk12
    rw [g_X6_fill_27]
    simp (disch := omega) only [g_X6_fill_28, g_X6_fill_29, g_X6_fill_32, g_X6_fill_33, g_X6_fill_36, g_X6_fill_37, g_X6_fill_38, g_X6_fill_41, g_X6_fill_43, g_X6_fill_44, g_X6_fill_47, g_X6_fill_48, g_X6_fill_50, g_X6_fill_53, g_X6_fill_54, g_X6_fill_57, g_X6_fill_58, g_X6_fill_59, g_X6_fill_61, g_X6_fill_62, g_X6_fill_63, g_X6_fill_66, lk_X6_fill, XI, Nat.reduceAdd, Nat.reduceEqDiff, not_false_eq_true, nI_T1, nI_T0, true_and, and_true, WC, WV, WU, nI_leS, k_St P n s I J R hq, cy, su_at_48, e49]
    rw [if_neg (by omega)]
    refine ⟨rfl, ?_⟩
    refine s_fillOne P n s R d _ I J hD hw hk12 hy hA (fun I1 J1 g1 g2 h5 h6 h7 h8 h9 h58 => ?_)
    simp (disch := omega) only [g_X6_fill_69, g_X6_fill_70, g_X6_fill_73, lk_X6_fill, XI, Nat.reduceAdd, Nat.reduceEqDiff, not_false_eq_true, nI_T1, nI_T0, true_and, and_true, WC, WV, WU, nI_cl, rs_in_t, nI_addS]
    refine ih (k + 1) _ J1 _ (by omega) (fF_t fi (fF_t g1 (fun q j a b => rs_u2_ne _ _ (fun z => b z.1)))) (fG_t fj g2) ⟨?_, ?_, ?_, ?_, ?_, fun j hj => ?_⟩
    · rw [rs_u2_ne _ _ (by omega)]; exact h5
    · rw [rs_u2_ne _ _ (by omega)]; exact h6
    · rw [rs_u2_ne _ _ (by omega)]; exact h7
    · rw [rs_u2_ne _ _ (by omega)]; exact h8
    · rw [rs_u2_ne _ _ (by omega)]; exact h9
    · by_cases e : j = k
      · rw [e, rs_u2_eq]
      · rw [rs_u2_ne _ _ (fun z => e z.2), h58]
        exact hA.2.2.2.2.2 j (by omega)
theorem s_fill {b q : Nat} {D : Dt} (hq : cSt P b q D) (hD : D.ok) {w : Nat → Nat × Nat × Nat × Nat} (hw : chs D w) (I : Nat → Nat → Int32) (J : Nat → Nat → Int64) (hJ : ∀ i, i < 12 → J 49 i = pkF (aftD D i)) (hQ : ∀ I' J', fF I I' → fG J J' → cA D w I' 12 → Q (sk_w P n s I' J' R) none) : rs_XM (d + 5) yX6_fill [.ref 56, .ref q, .ref 48] (sk_w P n s I J R) Q := by
  rw [em_X6_fill]
  simp (disch := omega) only [g_X6_fill_0, g_X6_fill_1, g_X6_fill_2, g_X6_fill_5, g_X6_fill_6, g_X6_fill_7, g_X6_fill_10, g_X6_fill_11, g_X6_fill_12, g_X6_fill_15, g_X6_fill_16, g_X6_fill_17, g_X6_fill_20, g_X6_fill_21, g_X6_fill_22, g_X6_fill_25, g_X6_fill_26, lk_X6_fill, XI, Nat.reduceAdd, Nat.reduceEqDiff, not_false_eq_true, nI_T1, nI_T0, true_and, and_true, WC, WV, WU]
  refine X6_fill_l P n s R d Q hq hD hw I J hJ hQ 12 0 _ J none rfl (fun q j a b => ?_) (fun _ _ _ _ => rfl) ⟨?_, ?_, ?_, ?_, ?_, fun j hj => absurd hj (Nat.not_lt_zero j)⟩
  · rw [rs_u2_ne _ _ (fun z => a z.1), rs_u2_ne _ _ (fun z => a z.1), rs_u2_ne _ _ (fun z => a z.1), rs_u2_ne _ _ (fun z => a z.1), rs_u2_ne _ _ (fun z => a z.1)]
  · rw [rs_u2_ne _ _ (by omega), rs_u2_ne _ _ (by omega), rs_u2_ne _ _ (by omega), rs_u2_ne _ _ (by omega), rs_u2_eq]; rfl
  · rw [rs_u2_ne _ _ (by omega), rs_u2_ne _ _ (by omega), rs_u2_ne _ _ (by omega), rs_u2_eq]; rfl
  · rw [rs_u2_ne _ _ (by omega), rs_u2_ne _ _ (by omega), rs_u2_eq]; rfl
  · rw [rs_u2_ne _ _ (by omega), rs_u2_eq]; rfl
  · rw [rs_u2_eq]; rfl
end
/-- the reference's sums -/
def rA (D : Dt) (w : Nat → Nat × Nat × Nat × Nat) (I : Nat → Nat → Int32) (J : Nat → Nat → Int64) (k : Nat) : Prop := J 61 35 = lN (sK (aP D w) k) ∧ J 61 36 = lN (sK (aW D w) k) ∧ J 61 37 = lN (sK (aG D w) k) ∧ I 61 38 = nI (bK (lkB D) k) ∧ I 61 39 = nI (bK (unB D) k) ∧ ∀ j, j < k → J 81 j = lN (aG D w j)
def fY (I I' : Nat → Nat → Int32) : Prop := ∀ q j, ¬ (q = 61 ∧ (j = 32 ∨ j = 33 ∨ j = 34 ∨ j = 38 ∨ j = 39)) → I' q j = I q j
def fZ (J J' : Nat → Nat → Int64) : Prop := ∀ q j, ¬ (q = 61 ∧ (j = 28 ∨ j = 29 ∨ j = 35 ∨ j = 36 ∨ j = 37)) → ¬ q = 78 → ¬ q = 79 → ¬ q = 80 → ¬ q = 81 → J' q j = J q j
theorem fY_t {I I' I2 : Nat → Nat → Int32} (h : fY I I') (h2 : fY I' I2) : fY I I2 := fun q j a => (h2 q j a).trans (h q j a)
theorem fZ_t {J J' J2 : Nat → Nat → Int64} (h : fZ J J') (h2 : fZ J' J2) : fZ J J2 := fun q j a b c e f => (h2 q j a b c e f).trans (h q j a b c e f)
theorem fX_Y {I I' : Nat → Nat → Int32} (h : fX I I') : fY I I' := fun q j a => h q j (by omega)
theorem fS_Z {J J' : Nat → Nat → Int64} (h : fS J J') : fZ J J' := fun q j a b c e _ => h q j (by omega) b c e
