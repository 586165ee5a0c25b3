/-! the reference: one substitution -/
theorem rs_b_ok2 (p : Prop) [Decidable p] : (¬ p ∨ rs_b p = 1) ↔ True := ⟨fun _ => trivial, fun _ => by
  by_cases h : p
  · exact Or.inr (by rw [rs_b_t h]; rfl)
  · exact Or.inl h⟩
theorem omul_fr {w : Nat × Nat} {u v : Nat} (hv1 : 1 ≤ v) (hu : u ≤ 999) (hv : v ≤ 999) : fr (w.1 * u) (w.2 * v) = omul (some w) (fr u v) := by
  have hg : 0 < Nat.gcd u v := Nat.gcd_pos_of_pos_right u hv1
  have h1 : u / Nat.gcd u v ≤ u := Nat.div_le_self _ _
  have h2 : v / Nat.gcd u v ≤ v := Nat.div_le_self _ _
  have e : fr u v = some (u / Nat.gcd u v, v / Nat.gcd u v) := by unfold fr; rw [if_pos (by omega)]
  rw [e, omul_s]
  dsimp only
  have a : Nat.gcd u v * (w.1 * (u / Nat.gcd u v)) = w.1 * u := by rw [Nat.mul_left_comm, Nat.mul_div_cancel' (Nat.gcd_dvd_left u v)]
  have b : Nat.gcd u v * (w.2 * (v / Nat.gcd u v)) = w.2 * v := by rw [Nat.mul_left_comm, Nat.mul_div_cancel' (Nat.gcd_dvd_right u v)]
  rw [← fr_mul (n := w.1 * (u / Nat.gcd u v)) hg, a, b]
theorem upS_swap (S : Nat → Nat × Nat) {i j : Nat} (p q : Nat × Nat) (h : ¬ i = j) : upS (upS S i p) j q = upS (upS S j q) i p := by
  funext x
  unfold upS
  by_cases h1 : x = j
  · rw [if_pos h1, if_neg (fun z => h (z.symm.trans h1)), if_pos h1]
  · rw [if_neg h1, if_neg h1]
def aI (I I' : Nat → Nat → Int32) : Prop := ∀ q j, ¬ (q = 61 ∧ j = 8) → ¬ q = 73 → I' q j = I q j
def aJ (J J' : Nat → Nat → Int64) : Prop := ∀ q j, ¬ (q = 61 ∧ (j = 6 ∨ j = 7)) → ¬ q = 67 → ¬ q = 68 → ¬ q = 74 → ¬ q = 75 → J' q j = J q j
/-- what the reference took, and whether -/
def mTA (I : Nat → Nat → Int32) (J : Nat → Nat → Int64) (k : Nat) (T : Nat → Nat × Nat) (A : Nat) : Prop := ∀ j, j < k → J 74 j = lN (T j).1 ∧ J 75 j = lN (T j).2 ∧ I 73 j = rs_b (A.testBit j = true)
section
variable (P : Nat → Option rs_C) (n s : Nat) (I : Nat → Nat → Int32) (J : Nat → Nat → Int64) (R : Nat → Nat → Option Nat) (d : Nat) (Q : rs_H → Option Value → Prop)
theorem s_red {a b : Nat} (h8 : I 61 8 = nI 0) (ha : a < 2 ^ 63) (hb1 : 1 ≤ b) (hb : b ≤ 1000000000000000000) (hQ : ∀ I' J', MOf I J I' J' (fr a b) → Q (sk_w P n s I' J' R) none) : rs_XM d yX12_reduce [.ref 61, .long (lN a), .long (lN b)] (sk_w P n s I J R) Q := by
  rw [s_X12_reduce d P n s I J R Q (g := 0) (Nat.zero_le 1) h8 ha hb1 hb]
  exact hQ _ _ (MOf_red I J hb1 rfl)
theorem s_apply {D : Dt} (hM : mDt (I 62) D) (hD : D.ok) {S T : Nat → Nat × Nat} (hS : stOk S) (hm : mS J 67 68 12 S) (h8 : I 61 8 = nI 0) {k : Nat} (hk : k < 6) {t : Sb} (hs : D.sb[k]? = some t) {A : Nat} (hTA : mTA I J k T A) (hA0 : A.testBit k = false) (hT0 : T k = (0, 1))
    (hQ : ∀ I' J', aI I I' → aJ J J' → ((sbo1 D k t S T A).1 = 0 → mS J' 67 68 12 (sbo1 D k t S T A).2.1 ∧ I' 61 8 = nI 0 ∧ mTA I' J' (k + 1) (sbo1 D k t S T A).2.2.1 (sbo1 D k t S T A).2.2.2) → Q (sk_w P n s I' J' R) (some (.int (nI (sbo1 D k t S T A).1)))) : rs_XM (d + 3) yX12_apply [.ref 61, .int (nI k)] (sk_w P n s I J R) Q := by
  have ht := hD.2.2.2.1 k t hs
  have hx := ht.1
  have hy := ht.2.1
  have hxy := ht.2.2.1
  have hup := ht.2.2.2.2.1
  have hdn1 := ht.2.2.2.2.2.1
  have hdn := ht.2.2.2.2.2.2.1
  have hki := ht.2.2.2.2.2.2.2.1
  obtain ⟨f0, f1, f2, f3, f4, f5⟩ := hM.2.2.2.1 k t hs
  have hstk := (hM.2.1 t.x hx).2.2.2.2.1
  have hkl := kep_le hD ht
  have hk63 : (hM.2.1 t.x hx).2.2.2.2.1 = hstk := rfl
  have hstl := (hD.2.1 t.x hx).2.2.2.2.1
  rw [em_X12_apply]
  simp (disch := omega) only [g_X12_apply_0, g_X12_apply_3, g_X12_apply_5, g_X12_apply_6, g_X12_apply_7, g_X12_apply_8, g_X12_apply_9, g_X12_apply_10, g_X12_apply_13, g_X12_apply_14, g_X12_apply_15, g_X12_apply_16, g_X12_apply_17, g_X12_apply_20, g_X12_apply_21, g_X12_apply_22, g_X12_apply_23, g_X12_apply_24, g_X12_apply_26, g_X12_apply_27, g_X12_apply_30, g_X12_apply_31, g_X12_apply_32, g_X12_apply_33, g_X12_apply_36, g_X12_apply_37, g_X12_apply_38, g_X12_apply_41, g_X12_apply_42, g_X12_apply_43, g_X12_apply_44, g_X12_apply_45, g_X12_apply_48, g_X12_apply_49, g_X12_apply_50, g_X12_apply_51, g_X12_apply_52, g_X12_apply_55, g_X12_apply_56, g_X12_apply_57, g_X12_apply_60, g_X12_apply_61, lk_X12_apply, XI, Nat.reduceAdd, Nat.reduceEqDiff, not_false_eq_true, nI_T1, nI_T0, true_and, and_true, WC, WV, WU, nI_mulS, nI_addS, nI_cl, rs_in_t, f0, f1, s_X12_holds P n s I J R _ _ hM hD hS hm hk hs, rs_b_ok2, rs_u2_eq, rs_b_0, Classical.not_not]
  have a1 : aI I (rs_u2 I 73 k (rs_b (hol D t S = true))) := fun q j _ e => rs_u2_ne _ _ (fun z => e z.1)
  have aj1 : aJ J (rs_u2 (rs_u2 J 74 k (lN 0)) 75 k (lN 1)) := fun q j _ _ _ e1 e2 => by rw [rs_u2_ne _ _ (fun z => e2 z.1), rs_u2_ne _ _ (fun z => e1 z.1)]
  by_cases hh : hol D t S = true
  · rw [if_pos hh]
    obtain ⟨w, hw⟩ := fr_less (hS t.x hx) (kep D t * (S t.x).2)
    have hwF := fr_isF (hS t.x hx).2.1 hw
    have hle := hol_le hh
    have hxF := hS t.x hx
    have hyF := hS t.y hy
    have hxF1 := hxF.1
    have hxF2 := hxF.2.2.1
    unfold sbo1 at hQ
    rw [if_pos hh, hw] at hQ
    dsimp only at hQ
    generalize hI1 : rs_u2 I 73 k (rs_b (hol D t S = true)) = I1 at a1
    generalize hJ1 : rs_u2 (rs_u2 J 74 k (lN 0)) 75 k (lN 1) = J1 at aj1
    have g8 : I1 61 8 = nI 0 := by rw [← hI1, rs_u2_ne _ _ (by omega)]; exact h8
    have g62 : ∀ j, I1 62 j = I 62 j := fun j => by rw [← hI1, rs_u2_ne _ _ (by omega)]
    have g67 : ∀ j, J1 67 j = J 67 j := fun j => by rw [← hJ1, rs_u2_ne _ _ (by omega), rs_u2_ne _ _ (by omega)]
    have g68 : ∀ j, J1 68 j = J 68 j := fun j => by rw [← hJ1, rs_u2_ne _ _ (by omega), rs_u2_ne _ _ (by omega)]
    have go : rs_X (d + 3) yX12_apply 91 [some (.ref 61), some (.int (nI k)), some (.int (nI (409 + 6 * k))), some (.int (nI t.x)), some (.int (nI t.y)), none, none] [.long (lN (kep D t))] (sk_w P n s I1 J1 R) Q := by
      simp (disch := omega) only [g_X12_apply_91, g_X12_apply_93, g_X12_apply_94, g_X12_apply_95, g_X12_apply_98, g_X12_apply_99, g_X12_apply_100, g_X12_apply_102, g_X12_apply_103, g_X12_apply_106, g_X12_apply_107, g_X12_apply_108, g_X12_apply_109, g_X12_apply_110, g_X12_apply_111, g_X12_apply_114, g_X12_apply_115, g_X12_apply_116, lk_X12_apply, XI, Nat.reduceAdd, Nat.reduceEqDiff, not_false_eq_true, nI_T1, nI_T0, true_and, and_true, WC, WV, WU, nI_cl, rs_in_t, g67, g68, (hm t.x hx).1, (hm t.x hx).2, lN_mul, lN_sub hle]
      refine s_red P n s I1 J1 R _ _ g8 (by omega) hxF.2.1 (by omega) ?_
      intro I2 J2 m2
      rw [hw] at m2
      have c6 : J2 61 6 = lN w.1 := m2.1.2.2.1
      have c7 : J2 61 7 = lN w.2 := m2.1.2.2.2
      have k62 : ∀ j, I2 62 j = I 62 j := fun j => by rw [m2.2.1 62 j (by omega)]; exact g62 j
      simp (disch := omega) only [g_X12_apply_119, g_X12_apply_120, g_X12_apply_123, g_X12_apply_124, g_X12_apply_125, g_X12_apply_128, g_X12_apply_129, g_X12_apply_130, g_X12_apply_133, g_X12_apply_134, g_X12_apply_135, g_X12_apply_138, g_X12_apply_139, g_X12_apply_140, g_X12_apply_141, g_X12_apply_144, g_X12_apply_145, g_X12_apply_146, g_X12_apply_147, g_X12_apply_148, g_X12_apply_149, g_X12_apply_150, g_X12_apply_153, g_X12_apply_154, g_X12_apply_155, g_X12_apply_156, g_X12_apply_157, g_X12_apply_158, lk_X12_apply, XI, Nat.reduceAdd, Nat.reduceEqDiff, not_false_eq_true, nI_T1, nI_T0, true_and, and_true, WC, WV, WU, nI_addS, nI_cl, rs_in_t, c6, c7, rs_u2_ne, k62, f2, f3, nI_long (show t.up ≤ 1000000000 by omega), nI_long (show t.dn ≤ 1000000000 by omega)]
      have mo : MO I2 (rs_u2 (rs_u2 J2 74 k (lN w.1)) 75 k (lN w.2)) (some w) := ⟨hwF, m2.1.2.1, by rw [rs_u2_ne _ _ (by omega), rs_u2_ne _ _ (by omega)]; exact c6, by rw [rs_u2_ne _ _ (by omega), rs_u2_ne _ _ (by omega)]; exact c7⟩
      refine s_X12_times _ P n s I2 _ R _ mo (show t.up ≤ 1000000000 by omega) hdn1 (show t.dn ≤ 1000000000 by omega) ?_
      intro I4 J4 m4
      have m4 : MOf I2 (rs_u2 (rs_u2 J2 74 k (lN w.1)) 75 k (lN w.2)) I4 J4 (fr (w.1 * t.up) (w.2 * t.dn)) := m4
      rw [omul_fr hdn1 hup hdn] at m4
      have j67 : ∀ j, J4 67 j = J 67 j := fun j => by rw [m4.2.2 67 j (by omega), rs_u2_ne _ _ (by omega), rs_u2_ne _ _ (by omega), m2.2.2 67 j (by omega)]; exact g67 j
      have j68 : ∀ j, J4 68 j = J 68 j := fun j => by rw [m4.2.2 68 j (by omega), rs_u2_ne _ _ (by omega), rs_u2_ne _ _ (by omega), m2.2.2 68 j (by omega)]; exact g68 j
      simp (disch := omega) only [g_X12_apply_161, g_X12_apply_162, g_X12_apply_163, g_X12_apply_166, g_X12_apply_168, g_X12_apply_169, g_X12_apply_170, g_X12_apply_173, g_X12_apply_175, g_X12_apply_176, lk_X12_apply, XI, Nat.reduceAdd, Nat.reduceEqDiff, not_false_eq_true, nI_T1, nI_T0, true_and, and_true, WC, WV, WU, nI_cl, rs_in_t, j67, j68, (hm t.y hy).1, (hm t.y hy).2]
      refine s_X12_plus _ P n s I4 J4 R _ m4.1 hyF.1 hyF.2.1 hyF.2.2.1 ?_
      intro I5 J5 m5
      rw [adO_c] at m5
      have e8 := MO_g I5 J5 m5.1
      have i5 : aI I I5 := fun q j e e2 => by rw [m5.2.1 q j e, m4.2.1 q j e, m2.2.1 q j e]; exact a1 q j e e2
      have j5 : aJ J J5 := fun q j e e1 e2 e3 e4 => by rw [m5.2.2 q j e, m4.2.2 q j e, rs_u2_ne _ _ (fun z => e4 z.1), rs_u2_ne _ _ (fun z => e3 z.1), m2.2.2 q j e]; exact aj1 q j e e1 e2 e3 e4
      simp (disch := omega) only [g_X12_apply_179, g_X12_apply_180, g_X12_apply_183, g_X12_apply_186, g_X12_apply_187, g_X12_apply_188, g_X12_apply_189, g_X12_apply_192, g_X12_apply_194, g_X12_apply_195, g_X12_apply_198, g_X12_apply_199, g_X12_apply_200, g_X12_apply_203, g_X12_apply_205, g_X12_apply_206, g_X12_apply_209, g_X12_apply_210, g_X12_apply_211, g_X12_apply_214, g_X12_apply_215, g_X12_apply_217, g_X12_apply_218, g_X12_apply_219, g_X12_apply_222, g_X12_apply_223, g_X12_apply_224, g_X12_apply_225, g_X12_apply_226, lk_X12_apply, XI, Nat.reduceAdd, Nat.reduceEqDiff, not_false_eq_true, nI_T1, nI_T0, true_and, and_true, WC, WV, WU, nI_cl, rs_in_t]
      cases ha : adO (S t.y) (omul (some w) (fr t.up t.dn)) with
      | none =>
        rw [ha] at hQ e8
        rw [if_pos rfl] at e8
        rw [if_neg (by rw [e8]; decide)]
        exact hQ I5 J5 i5 j5 (fun z => by cases z)
      | some p =>
        rw [ha] at hQ e8 m5
        rw [if_neg (by intro z; cases z)] at e8
        rw [if_pos (by rw [e8]; rfl)]
        have d6 : J5 61 6 = lN p.1 := m5.1.2.2.1
        have d7 : J5 61 7 = lN p.2 := m5.1.2.2.2
        simp (disch := omega) only [rs_u2_ne, d6, d7]
        have n67 : ∀ j, J5 67 j = J 67 j := fun j => by rw [m5.2.2 67 j (by omega)]; exact j67 j
        have n68 : ∀ j, J5 68 j = J 68 j := fun j => by rw [m5.2.2 68 j (by omega)]; exact j68 j
        have mS5 : mS J5 67 68 12 S := fun i hi => by rw [n67, n68]; exact hm i hi
        refine hQ I5 _ i5 ?_ (fun _ => ⟨?_, e8, ?_⟩)
        · intro q j e e1 e2 e3 e4
          rw [rs_u2_ne _ _ (fun z => e2 z.1), rs_u2_ne _ _ (fun z => e1 z.1), rs_u2_ne _ _ (fun z => e2 z.1), rs_u2_ne _ _ (fun z => e1 z.1)]
          exact j5 q j e e1 e2 e3 e4
        · dsimp only
          rw [upS_swap _ _ _ hxy]
          exact mS_up (mS_up mS5 (by decide) t.y p) (by decide) t.x (kep D t, 1)
        · intro j hj
          dsimp only
          rw [rs_u2_ne _ _ (by omega), rs_u2_ne _ _ (by omega), rs_u2_ne _ _ (by omega), rs_u2_ne _ _ (by omega), rs_u2_ne _ _ (by omega), rs_u2_ne _ _ (by omega), rs_u2_ne _ _ (by omega), rs_u2_ne _ _ (by omega), m5.2.2 74 j (by omega), m5.2.2 75 j (by omega), m4.2.2 74 j (by omega), m4.2.2 75 j (by omega), m5.2.1 73 j (by omega), m4.2.1 73 j (by omega), m2.2.1 73 j (by omega), ← hI1, Nat.testBit_or, Nat.testBit_two_pow]
          by_cases e : j = k
          · subst e
            rw [rs_u2_ne _ _ (by omega), rs_u2_eq, rs_u2_eq, rs_u2_eq, upS_eq, rs_b_t hh, decide_eq_true rfl, Bool.or_true]
            exact ⟨rfl, rfl, rfl⟩
          · rw [rs_u2_ne _ _ (by omega), rs_u2_ne _ _ (by omega), rs_u2_ne _ _ (by omega), rs_u2_ne _ _ (by omega), upS_ne _ _ e, decide_eq_false (fun z => e z.symm), Bool.or_false, m2.2.2 74 j (by omega), m2.2.2 75 j (by omega), ← hJ1, rs_u2_ne _ _ (by omega), rs_u2_ne _ _ (by omega), rs_u2_ne _ _ (by omega), rs_u2_ne _ _ (by omega), rs_u2_ne _ _ (by omega)]
            exact hTA j (by omega)
    simp (disch := omega) only [g_X12_apply_62, g_X12_apply_63, g_X12_apply_66, g_X12_apply_67, g_X12_apply_68, g_X12_apply_69, g_X12_apply_70, g_X12_apply_71, g_X12_apply_74, g_X12_apply_75, g_X12_apply_78, g_X12_apply_79, g_X12_apply_82, g_X12_apply_84, g_X12_apply_85, g_X12_apply_86, g_X12_apply_87, g_X12_apply_90, lk_X12_apply, XI, Nat.reduceAdd, Nat.reduceEqDiff, not_false_eq_true, nI_T1, nI_T0, true_and, and_true, WC, WV, WU, nI_mulS, nI_addS, nI_cl, rs_in_t, g62, f4, nI_eqS, s_X12_at, hstk, nI_long (show (D.ig t.x).stk ≤ 1000000000 by omega)]
    unfold kep at go
    by_cases e3 : t.ki = 3
    · rw [if_pos e3] at go
      rw [if_neg (fun z => z e3)]
      exact go
    · rw [if_neg e3] at go
      rw [if_pos e3]
      exact go
  · rw [if_neg hh]
    unfold sbo1 at hQ
    rw [if_neg hh] at hQ
    refine hQ _ _ a1 aj1 (fun _ => ⟨?_, ?_, ?_⟩)
    · intro i hi
      rw [rs_u2_ne _ _ (by omega), rs_u2_ne _ _ (by omega), rs_u2_ne _ _ (by omega), rs_u2_ne _ _ (by omega)]
      exact hm i hi
    · rw [rs_u2_ne _ _ (by omega)]
      exact h8
    · intro j hj
      dsimp only
      by_cases e : j = k
      · subst e
        rw [rs_u2_ne _ _ (by omega), rs_u2_eq, rs_u2_eq, rs_u2_eq, hT0, hA0, rs_b_f hh, rs_b_f (by decide)]
        exact ⟨rfl, rfl, rfl⟩
      · rw [rs_u2_ne _ _ (by omega), rs_u2_ne _ _ (by omega), rs_u2_ne _ _ (by omega), rs_u2_ne _ _ (by omega), rs_u2_ne _ _ (by omega)]
        exact hTA j (by omega)
end
