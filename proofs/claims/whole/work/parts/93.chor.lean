/-! the reference chooses: one count tried -/
theorem iO_eq {o : Option Nat} {k : Nat} (hk : k < 3) (ho : ∀ j, o = some j → j < 3) : (nI k = iO o) ↔ o = some k := by
  cases o with
  | none => exact ⟨fun z => absurd z (fun y => nI_pos (n := k) (by omega) (by rw [y]; decide)), fun z => by cases z⟩
  | some j =>
    have := ho j rfl
    refine ⟨fun z => ?_, fun z => by cases z; rfl⟩
    have := (nI_eqS (a := k) (b := j) (by omega) (by omega)).mp z
    rw [this]
def fT (J J' : Nat → Nat → Int64) : Prop := ∀ q j, ¬ q = 79 → ¬ q = 80 → J' q j = J q j
theorem fT_r (J : Nat → Nat → Int64) : fT J J := fun _ _ _ _ => rfl
theorem fT_t {J J' J2 : Nat → Nat → Int64} (h : fT J J') (h2 : fT J' J2) : fT J J2 := fun q j a b => (h2 q j a b).trans (h q j a b)
theorem mPk_X {I I' : Nat → Nat → Int32} (h : fX I I') {i : Nat} {pk : List (Nat × Nat)} (hI : mPk I i pk) : mPk I' i pk := by
  have e : I' 62 = I 62 := funext fun j => h 62 j (by omega)
  unfold mPk
  rw [e]
  exact hI
section
variable (P : Nat → Option rs_C) (n s : Nat) (R : Nat → Nat → Option Nat) (d : Nat) (Q : rs_H → Option Value → Prop)
/-- the counts are laid -/
theorem X12_ch_t (I : Nat → Nat → Int32) {i : Nat} (hi : i < 12) {pk : List (Nat × Nat)} (hp : pkOk pk) (hI : mPk I i pk) {b : Nat} {o t : Option Nat} (hc : Cs pk b o t) {x f v : Nat} (hx : x ≤ 2000) (hf : f ≤ 10000) (hv : v * zP pk b ≤ 10000) (z6 z7 : Int32) (J0 : Nat → Nat → Int64) (hQ : ∀ J', (∀ q j, ¬ q = 80 → J' q j = J0 q j) → (∀ j, j < 3 → J' 80 j = lN (trC b o t x f v j)) → rs_X (d + 4) yX12_choose 231 [some (.ref 61), some (.int (nI i)), some (.int (nI b)), some (.int (iO o)), some (.int (iO t)), some (.int (nI (zP pk b))), some (.int z6), some (.int z7), some (.int (nI x)), some (.long (lN (f * zO pk t + v * zP pk b))), none, some (.long (lN f)), none, some (.int (nI 3))] [] (sk_w P n s I J' R) Q) :
    ∀ (m k : Nat) (J : Nat → Nat → Int64), k + m = 3 → (∀ q j, ¬ q = 80 → J q j = J0 q j) → (∀ j, j < k → J 80 j = lN (trC b o t x f v j)) → rs_X (d + 4) yX12_choose 151 [some (.ref 61), some (.int (nI i)), some (.int (nI b)), some (.int (iO o)), some (.int (iO t)), some (.int (nI (zP pk b))), some (.int z6), some (.int z7), some (.int (nI x)), some (.long (lN (f * zO pk t + v * zP pk b))), none, some (.long (lN f)), none, some (.int (nI k))] [] (sk_w P n s I J R) Q := by
  have h3 := hp.2.1
  obtain ⟨b1, b2, b3⟩ := Cs_b hc
  obtain ⟨zb1, zb2⟩ := zP_1 hp b1
  intro m
  induction m with
  | zero =>
    intro k J hk hJ hT
    have : k = 3 := by omega
    subst this
    rw [g_X12_choose_151]
    simp (disch := omega) only [g_X12_choose_153, g_X12_choose_154, lk_X12_choose, XI, Nat.reduceAdd, Nat.reduceEqDiff, not_false_eq_true, nI_T1, nI_T0, true_and, and_true, WC, WV, WU, nI_leS, Nat.le_refl, if_true]
    exact hQ J hJ hT
  | succ m ih =>
    intro k J hk hJ hT
    have eo := iO_eq (o := o) (k := k) (by omega) (fun j e => by have := b2 j e; omega)
    have et := iO_eq (o := t) (k := k) (by omega) (fun j e => by have := b3 j e; omega)
    have nx : ∀ u, u = trC b o t x f v k → rs_X (d + 4) yX12_choose 151 [some (.ref 61), some (.int (nI i)), some (.int (nI b)), some (.int (iO o)), some (.int (iO t)), some (.int (nI (zP pk b))), some (.int z6), some (.int z7), some (.int (nI x)), some (.long (lN (f * zO pk t + v * zP pk b))), none, some (.long (lN f)), none, some (.int (nI (k + 1)))] [] (sk_w P n s I (rs_u2 J 80 k (lN u)) R) Q := fun u hu => by
      refine ih (k + 1) _ (by omega) (fun q j a => ?_) (fun j hj => ?_)
      · rw [rs_u2_ne _ _ (fun y => a y.1)]
        exact hJ q j a
      · by_cases e : j = k
        · rw [e, rs_u2_eq, hu]
        · rw [rs_u2_ne _ _ (fun y => e y.2)]
          exact hT j (by omega)
    rw [g_X12_choose_151]
    simp (disch := omega) only [g_X12_choose_153, g_X12_choose_154, g_X12_choose_157, g_X12_choose_158, g_X12_choose_161, g_X12_choose_163, g_X12_choose_165, g_X12_choose_166, lk_X12_choose, XI, Nat.reduceAdd, Nat.reduceEqDiff, not_false_eq_true, nI_T1, nI_T0, true_and, and_true, WC, WV, WU, nI_leS, eo]
    rw [if_neg (by omega)]
    by_cases e1 : o = some k
    · have hu : x = trC b o t x f v k := (if_pos e1).symm
      simp (disch := omega) only [e1, not_true_eq_false, if_false, g_X12_choose_169, g_X12_choose_171, g_X12_choose_172, lk_X12_choose, g_X12_choose_224, g_X12_choose_225, g_X12_choose_228, lk_X12_choose, XI, Nat.reduceAdd, Nat.reduceEqDiff, not_false_eq_true, nI_T1, nI_T0, true_and, and_true, WC, WV, WU, nI_cl, rs_in_t, nI_long, nI_addS]
      rw [← e1]
      exact nx x hu
    · simp (disch := omega) only [e1, not_false_eq_true, if_true, g_X12_choose_175, g_X12_choose_177, g_X12_choose_179, lk_X12_choose, XI, Nat.reduceAdd, Nat.reduceEqDiff, not_false_eq_true, nI_T1, nI_T0, true_and, and_true, WC, WV, WU, et]
      by_cases e2 : t = some k
      · have hu : f = trC b o t x f v k := by unfold trC; rw [if_neg e1, if_pos e2]
        simp (disch := omega) only [e2, not_true_eq_false, if_false, g_X12_choose_182, g_X12_choose_184, lk_X12_choose, g_X12_choose_224, g_X12_choose_225, g_X12_choose_228, lk_X12_choose, XI, Nat.reduceAdd, Nat.reduceEqDiff, not_false_eq_true, nI_T1, nI_T0, true_and, and_true, WC, WV, WU, nI_cl, rs_in_t, nI_addS]
        rw [← e2]
        exact nx f hu
      · simp (disch := omega) only [e2, not_false_eq_true, if_true, g_X12_choose_187, g_X12_choose_189, g_X12_choose_190, lk_X12_choose, XI, Nat.reduceAdd, Nat.reduceEqDiff, not_false_eq_true, nI_T1, nI_T0, true_and, and_true, WC, WV, WU, nI_eqS]
        by_cases e3 : k = b
        · have hu : v = trC b o t x f v k := by unfold trC; rw [if_neg e1, if_neg e2, if_pos e3]
          have hdiv : ∀ zt, zt ≤ 2000 → f * zt ≤ 20000000 → (lN (f * zt + v * zP pk b) - lN f * lN zt) / lN (zP pk b) = lN v := fun zt h0 h1 => by
            rw [lN_mul, lN_sub (Nat.le_add_right _ _), Nat.add_sub_cancel_left, pk_lDiv (by omega) zb1 (by omega), Nat.mul_div_cancel _ zb1]
          have hbn : ¬ lN (zP pk b) = 0 := fun y => by
            have := (lN_inj (a := zP pk b) (b := 0) (by omega) (by decide)).mp y
            omega
          cases t with
          | none =>
            have hd0 := hdiv 0 (by omega) (by rw [Nat.mul_zero]; exact Nat.zero_le _)
            have ez : zO pk none = 0 := rfl
            have ei : iO none = -1 := rfl
            rw [ei, ez]
            rw [ei, ez] at nx
            simp (disch := omega) only [e3, not_true_eq_false, if_false, g_X12_choose_193, g_X12_choose_195, g_X12_choose_197, g_X12_choose_199, g_X12_choose_202, g_X12_choose_203, g_X12_choose_206, g_X12_choose_207, g_X12_choose_208, g_X12_choose_210, g_X12_choose_213, g_X12_choose_214, g_X12_choose_215, g_X12_choose_216, g_X12_choose_218, g_X12_choose_219, g_X12_choose_220, lk_X12_choose, g_X12_choose_224, g_X12_choose_225, g_X12_choose_228, lk_X12_choose, XI, Nat.reduceAdd, Nat.reduceEqDiff, not_false_eq_true, nI_T1, nI_T0, true_and, and_true, WC, WV, WU, m1_ge, nI_cl, rs_in_t, nI_long, hbn, not_false_eq_true, true_and, hd0, nI_addS]
            have h9 := nx v hu
            rw [e3] at h9
            exact h9
          | some j =>
            obtain ⟨zj1, zj2⟩ := zP_1 hp (b3 j rfl)
            have hj3 := b3 j rfl
            have hfz : f * zP pk j ≤ 10000 * 2000 := Nat.mul_le_mul hf zj2
            have hd0 := hdiv (zP pk j) zj2 (by omega)
            have ez : zO pk (some j) = zP pk j := rfl
            have ei : iO (some j) = nI j := rfl
            have es := (hI.2 j hj3).1
            rw [ei, ez]
            rw [ei, ez] at nx
            simp (disch := omega) only [e3, not_true_eq_false, if_false, g_X12_choose_193, g_X12_choose_195, g_X12_choose_197, g_X12_choose_199, g_X12_choose_202, g_X12_choose_203, g_X12_choose_206, g_X12_choose_207, g_X12_choose_208, g_X12_choose_210, g_X12_choose_213, g_X12_choose_214, g_X12_choose_215, g_X12_choose_216, g_X12_choose_218, g_X12_choose_219, g_X12_choose_220, lk_X12_choose, g_X12_choose_224, g_X12_choose_225, g_X12_choose_228, lk_X12_choose, XI, Nat.reduceAdd, Nat.reduceEqDiff, not_false_eq_true, nI_T1, nI_T0, true_and, and_true, WC, WV, WU, nI_ge0S, if_true, s_X12_sizeOf, es, nI_cl, rs_in_t, nI_long, hbn, not_false_eq_true, true_and, hd0, nI_addS]
            have h9 := nx v hu
            rw [e3] at h9
            exact h9
        · have hu : 0 = trC b o t x f v k := by unfold trC; rw [if_neg e1, if_neg e2, if_neg e3]
          simp (disch := omega) only [e3, not_false_eq_true, if_true, g_X12_choose_223, g_X12_choose_224, g_X12_choose_225, g_X12_choose_228, lk_X12_choose, XI, Nat.reduceAdd, Nat.reduceEqDiff, not_false_eq_true, nI_T1, nI_T0, true_and, and_true, WC, WV, WU, nI_cl, rs_in_t, nI_addS]
          exact nx 0 hu
/-- they are kept -/
theorem X12_ch_k (I : Nat → Nat → Int32) {i : Nat} (z2 z3 z4 z5 z6 z7 z8 : Int32) (z9 z11 : Int64) (J0 : Nat → Nat → Int64) {a b c : Nat} (hC : mC J0 80 a b c) (hQ : ∀ J', (∀ q j, ¬ q = 79 → J' q j = J0 q j) → mC J' 79 a b c → rs_X d yX12_choose 273 [some (.ref 61), some (.int (nI i)), some (.int z2), some (.int z3), some (.int z4), some (.int z5), some (.int z6), some (.int z7), some (.int z8), some (.long z9), none, some (.long z11), none, some (.int (nI 3))] [] (sk_w P n s I J' R) Q) : ∀ (m k : Nat) (J : Nat → Nat → Int64), k + m = 3 → (∀ q j, ¬ q = 79 → J q j = J0 q j) → (∀ j, j < k → J 79 j = lN (cnt a b c j)) → rs_X d yX12_choose 247 [some (.ref 61), some (.int (nI i)), some (.int z2), some (.int z3), some (.int z4), some (.int z5), some (.int z6), some (.int z7), some (.int z8), some (.long z9), none, some (.long z11), none, some (.int (nI k))] [] (sk_w P n s I J R) Q := by
  intro m
  induction m with
  | zero =>
    intro k J hk hJ hT
    have : k = 3 := by omega
    subst this
    rw [g_X12_choose_247]
    simp (disch := omega) only [g_X12_choose_249, g_X12_choose_250, lk_X12_choose, XI, Nat.reduceAdd, Nat.reduceEqDiff, not_false_eq_true, nI_T1, nI_T0, true_and, and_true, WC, WV, WU, nI_leS, Nat.le_refl, if_true]
    exact hQ J hJ hT
  | succ m ih =>
    intro k J hk hJ hT
    have e0 : J 80 k = lN (cnt a b c k) := by rw [hJ 80 k (by decide)]; exact hC k (by omega)
    rw [g_X12_choose_247]
    simp (disch := omega) only [g_X12_choose_249, g_X12_choose_250, g_X12_choose_253, g_X12_choose_254, g_X12_choose_257, g_X12_choose_259, g_X12_choose_260, g_X12_choose_263, g_X12_choose_265, g_X12_choose_266, g_X12_choose_267, g_X12_choose_270, lk_X12_choose, XI, Nat.reduceAdd, Nat.reduceEqDiff, not_false_eq_true, nI_T1, nI_T0, true_and, and_true, WC, WV, WU, nI_leS, nI_cl, rs_in_t, e0, nI_addS]
    rw [if_neg (by omega)]
    refine ih (k + 1) _ (by omega) (fun q j a => ?_) (fun j hj => ?_)
    · rw [rs_u2_ne _ _ (fun y => a y.1)]
      exact hJ q j a
    · by_cases e : j = k
      · rw [e, rs_u2_eq]
      · rw [rs_u2_ne _ _ (fun y => e y.2)]
        exact hT j (by omega)
end
