/-! found again: both sides answer alike -/
def J1k (J : Nat → Nat → Int64) (F : Nat → Nat × Nat) (k : Nat) : Nat → Nat → Int64 := cpU (cpU J 82 0 k fun i => lN (F i).1) 83 0 k fun i => lN (F i).2
section
variable (P : Nat → Option rs_C) (n s : Nat) (R : Nat → Nat → Option Nat) (d : Nat) (Q : rs_H → Option Value → Prop)
theorem X12_ag_e {D : Dt} (hD : D.ok) (x0 x1 : Int32) : ∀ (m W : Nat) (I : Nat → Nat → Int32) (J : Nat → Nat → Int64) (z4 : Option Value), pc8 W ≤ m → W < 256 → gds D W → mDt (I 62) D → I 61 8 = nI 1 → (∀ z4, rs_X (d + 4) yX12_again 196 [some (.ref 61), some (.int x0), some (.int x1), some (.int (nI 0)), z4] [] (sk_w P n s I J R) Q) → rs_X (d + 4) yX12_again 167 [some (.ref 61), some (.int x0), some (.int x1), some (.int (nI W)), z4] [] (sk_w P n s I J R) Q := by
  intro m
  induction m with
  | zero =>
    intro W I J z4 hp hW hg hM h8 hQ
    have : W = 0 := pc8_z W hW (by omega)
    subst this
    rw [g_X12_again_167]
    simp (disch := omega) only [g_X12_again_168, lk_X12_again, XI, Nat.reduceAdd, Nat.reduceEqDiff, not_false_eq_true, nI_T1, nI_T0, true_and, and_true, WC, WV, WU, nI_00, if_true]
    exact hQ _
  | succ m ih =>
    intro W I J z4 hp hW hg hM h8 hQ
    by_cases h0 : W = 0
    · subst h0
      rw [g_X12_again_167]
      simp (disch := omega) only [g_X12_again_168, lk_X12_again, XI, Nat.reduceAdd, Nat.reduceEqDiff, not_false_eq_true, nI_T1, nI_T0, true_and, and_true, WC, WV, WU, nI_00, if_true]
      exact hQ _
    · obtain ⟨n8, nb, Z, hz2⟩ := nxD_ok hW h0 hg
      have ep := pow_lt8 n8
      obtain ⟨c1, c2⟩ := clr_pc W hW _ n8 nb
      rw [g_X12_again_167]
      simp (disch := omega) only [g_X12_again_168, g_X12_again_171, g_X12_again_172, g_X12_again_173, lk_X12_again, XI, Nat.reduceAdd, Nat.reduceEqDiff, not_false_eq_true, nI_T1, nI_T0, true_and, and_true, WC, WV, WU, nI_eq0S, h0, if_false]
      refine s_nextOf P n s I J R (d + 1) _ hM hD hW n8 ?_
      simp (disch := omega) only [g_X12_again_176, g_X12_again_178, g_X12_again_179, g_X12_again_181, lk_X12_again, XI, Nat.reduceAdd, Nat.reduceEqDiff, not_false_eq_true, nI_T1, nI_T0, true_and, and_true, WC, WV, WU]
      refine s_X12_goE P n s R d _ I J hM hD n8 h8 ?_
      simp (disch := omega) only [g_X12_again_184, g_X12_again_185, g_X12_again_186, g_X12_again_188, g_X12_again_189, g_X12_again_190, g_X12_again_191, g_X12_again_192, g_X12_again_193, lk_X12_again, XI, Nat.reduceAdd, Nat.reduceEqDiff, not_false_eq_true, nI_T1, nI_T0, true_and, and_true, WC, WV, WU, bt_shl, Nat.one_mul, clr_e W hW _ n8]
      exact ih _ I J _ (by omega) c2 (clr_gds hg) hM h8 hQ
theorem X12_ag_l {D : Dt} (hD : D.ok) (x0 x1 : Int32) : ∀ (m W : Nat) (I : Nat → Nat → Int32) (J : Nat → Nat → Int64) (F S : Nat → Nat × Nat) (z4 : Option Value), pc8 W ≤ m → W < 256 → gds D W → mDt (I 62) D → AS I J (F, S) → zOk (F, S) →
    (∀ x I' J' z4, agR D m W (F, S) = some x → fI I I' → aA J J' → AS I' J' x → rs_X (d + 4) yX12_again 196 [some (.ref 61), some (.int x0), some (.int x1), some (.int (nI 0)), z4] [] (sk_w P n s I' J' R) Q) →
    (∀ I' J' z4, agR D m W (F, S) = none → fI I I' → aA J J' → I' 61 8 = nI 1 → rs_X (d + 4) yX12_again 196 [some (.ref 61), some (.int x0), some (.int x1), some (.int (nI 0)), z4] [] (sk_w P n s I' J' R) Q) →
    rs_X (d + 4) yX12_again 167 [some (.ref 61), some (.int x0), some (.int x1), some (.int (nI W)), z4] [] (sk_w P n s I J R) Q := by
  intro m
  induction m with
  | zero =>
    intro W I J F S z4 hp hW hg hM hA hz q1 q0
    have : W = 0 := pc8_z W hW (by omega)
    subst this
    rw [g_X12_again_167]
    simp (disch := omega) only [g_X12_again_168, lk_X12_again, XI, Nat.reduceAdd, Nat.reduceEqDiff, not_false_eq_true, nI_T1, nI_T0, true_and, and_true, WC, WV, WU, nI_00, if_true]
    exact q1 (F, S) I J z4 rfl (fI_r I) (aA_r J) hA
  | succ m ih =>
    intro W I J F S z4 hp hW hg hM hA hz q1 q0
    rw [agR_s] at q1 q0
    by_cases h0 : W = 0
    · subst h0
      rw [if_pos rfl] at q1
      rw [g_X12_again_167]
      simp (disch := omega) only [g_X12_again_168, lk_X12_again, XI, Nat.reduceAdd, Nat.reduceEqDiff, not_false_eq_true, nI_T1, nI_T0, true_and, and_true, WC, WV, WU, nI_00, if_true]
      exact q1 (F, S) I J z4 rfl (fI_r I) (aA_r J) hA
    · obtain ⟨n8, nb, Z, hz2⟩ := nxD_ok hW h0 hg
      have ep := pow_lt8 n8
      obtain ⟨c1, c2⟩ := clr_pc W hW _ n8 nb
      rw [if_neg h0, hz2] at q1 q0
      dsimp only at q1 q0
      rw [g_X12_again_167]
      simp (disch := omega) only [g_X12_again_168, g_X12_again_171, g_X12_again_172, g_X12_again_173, lk_X12_again, XI, Nat.reduceAdd, Nat.reduceEqDiff, not_false_eq_true, nI_T1, nI_T0, true_and, and_true, WC, WV, WU, nI_eq0S, h0, if_false]
      refine s_nextOf P n s I J R (d + 1) _ hM hD hW n8 ?_
      simp (disch := omega) only [g_X12_again_176, g_X12_again_178, g_X12_again_179, g_X12_again_181, lk_X12_again, XI, Nat.reduceAdd, Nat.reduceEqDiff, not_false_eq_true, nI_T1, nI_T0, true_and, and_true, WC, WV, WU]
      refine s_X12_goT P n s R d _ hD (m := 7) n8 (hg _ nb) hz2 hM hA hz (fun x I1 J1 hx gi gj hA1 => ?_) (fun I1 J1 hx gi gj h81 => ?_)
      · rw [hx] at q1 q0
        have hM1 : mDt (I1 62) D := by rw [show I1 62 = I 62 from funext fun j => gi 62 j (by omega)]; exact hM
        simp (disch := omega) only [g_X12_again_184, g_X12_again_185, g_X12_again_186, g_X12_again_188, g_X12_again_189, g_X12_again_190, g_X12_again_191, g_X12_again_192, g_X12_again_193, lk_X12_again, XI, Nat.reduceAdd, Nat.reduceEqDiff, not_false_eq_true, nI_T1, nI_T0, true_and, and_true, WC, WV, WU, bt_shl, Nat.one_mul, clr_e W hW _ n8]
        refine ih _ I1 J1 x.1 x.2 _ (by omega) c2 (clr_gds hg) hM1 hA1 (agL_ok hD (hz.1 _ n8) Z.its _ x (Rc.ok_mem (hD.1 _ _ hz2).2) hz hx) ?_ ?_
        · intro y I' J' z4 hy gi2 gj2 hA2
          exact q1 y I' J' z4 hy (fun q j a => (gi2 q j a).trans (gi q j a)) (aA_t gj gj2) hA2
        · intro I' J' z4 hy gi2 gj2 hA2
          exact q0 I' J' z4 hy (fun q j a => (gi2 q j a).trans (gi q j a)) (aA_t gj gj2) hA2
      · rw [hx] at q0
        have hM1 : mDt (I1 62) D := by rw [show I1 62 = I 62 from funext fun j => gi 62 j (by omega)]; exact hM
        simp (disch := omega) only [g_X12_again_184, g_X12_again_185, g_X12_again_186, g_X12_again_188, g_X12_again_189, g_X12_again_190, g_X12_again_191, g_X12_again_192, g_X12_again_193, lk_X12_again, XI, Nat.reduceAdd, Nat.reduceEqDiff, not_false_eq_true, nI_T1, nI_T0, true_and, and_true, WC, WV, WU, bt_shl, Nat.one_mul, clr_e W hW _ n8]
        exact X12_ag_e P n s R d Q hD x0 x1 m _ I1 J1 _ (by omega) c2 (clr_gds hg) hM1 h81 (fun z4 => q0 I1 J1 z4 rfl gi gj h81)
theorem X12_ag_0 (I : Nat → Nat → Int32) (J : Nat → Nat → Int64) (x0 x1 : Int32) (z4 : Option Value) : ∀ (m k : Nat), k + m = 12 → rs_X d yX12_again 62 [some (.ref 61), some (.int x0), some (.int x1), some (.int (nI 12)), z4] [] (sk_w P n s I (J0k J 12) R) Q →
    rs_X d yX12_again 36 [some (.ref 61), some (.int x0), some (.int x1), some (.int (nI k)), z4] [] (sk_w P n s I (J0k J k) R) Q := by
  intro m
  induction m with
  | zero =>
    intro k hk h
    have : k = 12 := by omega
    subst this
    rw [g_X12_again_36]
    simp (disch := omega) only [g_X12_again_37, g_X12_again_39, g_X12_again_42, g_X12_again_43, g_X12_again_46, g_X12_again_47, g_X12_again_48, g_X12_again_49, g_X12_again_50, g_X12_again_53, g_X12_again_54, g_X12_again_55, g_X12_again_56, g_X12_again_59, lk_X12_again, XI, Nat.reduceAdd, Nat.reduceEqDiff, not_false_eq_true, nI_T1, nI_T0, true_and, and_true, WC, WV, WU, nI_leS, Nat.le_refl, if_true]
    exact h
  | succ m ih =>
    intro k hk h
    rw [g_X12_again_36]
    simp (disch := omega) only [g_X12_again_37, g_X12_again_39, g_X12_again_42, g_X12_again_43, g_X12_again_46, g_X12_again_47, g_X12_again_48, g_X12_again_49, g_X12_again_50, g_X12_again_53, g_X12_again_54, g_X12_again_55, g_X12_again_56, g_X12_again_59, lk_X12_again, XI, Nat.reduceAdd, Nat.reduceEqDiff, not_false_eq_true, nI_T1, nI_T0, true_and, and_true, WC, WV, WU, nI_leS, nI_addS, nI_cl, rs_in_t]
    rw [if_neg (by omega)]
    have e : rs_u2 (rs_u2 (J0k J k) 67 k (lN 0)) 68 k (lN 1) = J0k J (k + 1) := by
      unfold J0k
      rw [cpU_c _ _ _ _ _ _ _ (by decide), cpU_s J 67 0 k (fun _ => lN 0) (Nat.zero_le k) rfl, cpU_s _ 68 0 k (fun _ => lN 1) (Nat.zero_le k) rfl]
    rw [e]
    exact ih (k + 1) (by omega) h
theorem X12_ag_1 (I : Nat → Nat → Int32) (J : Nat → Nat → Int64) {p : Nat} {f : Nat × Nat} (hp : p < 8) (hf : isF f) (l0 : I 62 445 = nI p) (l1 : I 62 446 = nI f.1) (l2 : I 62 447 = nI f.2) (x0 x1 : Int32) (z4 : Option Value) : ∀ (m k : Nat), k + m = 8 → rs_X d yX12_again 138 [some (.ref 61), some (.int x0), some (.int x1), some (.int (nI 8)), z4] [] (sk_w P n s I (J1k J (upS S00 p f) 8) R) Q →
    rs_X d yX12_again 64 [some (.ref 61), some (.int x0), some (.int x1), some (.int (nI k)), z4] [] (sk_w P n s I (J1k J (upS S00 p f) k) R) Q := by
  intro m
  induction m with
  | zero =>
    intro k hk h
    have : k = 8 := by omega
    subst this
    rw [g_X12_again_64]
    simp (disch := omega) only [g_X12_again_65, g_X12_again_67, lk_X12_again, XI, Nat.reduceAdd, Nat.reduceEqDiff, not_false_eq_true, nI_T1, nI_T0, true_and, and_true, WC, WV, WU, nI_leS, Nat.le_refl, if_true]
    exact h
  | succ m ih =>
    intro k hk h
    have h2 := ih (k + 1) (by omega) h
    have e : rs_u2 (rs_u2 (J1k J (upS S00 p f) k) 82 k (lN (upS S00 p f k).1)) 83 k (lN (upS S00 p f k).2) = J1k J (upS S00 p f) (k + 1) := by
      unfold J1k
      rw [cpU_c _ _ _ _ _ _ _ (by decide), cpU_s J 82 0 k (fun i => lN (upS S00 p f i).1) (Nat.zero_le k) rfl, cpU_s _ 83 0 k (fun i => lN (upS S00 p f i).2) (Nat.zero_le k) rfl]
    rw [← e] at h2
    rw [g_X12_again_64]
    simp (disch := omega) only [g_X12_again_65, g_X12_again_67, g_X12_again_70, g_X12_again_71, g_X12_again_74, g_X12_again_75, g_X12_again_76, g_X12_again_77, g_X12_again_80, g_X12_again_83, g_X12_again_84, lk_X12_again, XI, Nat.reduceAdd, Nat.reduceEqDiff, not_false_eq_true, nI_T1, nI_T0, true_and, and_true, WC, WV, WU, nI_leS, nI_cl, rs_in_t, l0, nI_eqS]
    rw [if_neg (by omega)]
    by_cases ek : k = p
    · have eu : upS S00 p f k = f := if_pos ek
      rw [eu] at h2
      simp (disch := omega) only [ek, not_true_eq_false, if_false, g_X12_again_87, g_X12_again_88, g_X12_again_91, g_X12_again_94, g_X12_again_95, g_X12_again_96, g_X12_again_99, g_X12_again_100, g_X12_again_101, g_X12_again_102, g_X12_again_105, g_X12_again_106, g_X12_again_107, g_X12_again_108, g_X12_again_111, g_X12_again_114, g_X12_again_115, g_X12_again_118, g_X12_again_119, g_X12_again_122, g_X12_again_125, g_X12_again_126, g_X12_again_127, g_X12_again_130, g_X12_again_131, g_X12_again_132, g_X12_again_135, lk_X12_again, XI, Nat.reduceAdd, Nat.reduceEqDiff, not_false_eq_true, nI_T1, nI_T0, true_and, and_true, WC, WV, WU, nI_leS, nI_cl, rs_in_t, l0, l1, l2, nI_eqS, nI_long hf.1, nI_long hf.2.2.1, nI_addS]
      rw [ek] at h2
      exact h2
    · have eu : upS S00 p f k = (0, 1) := if_neg ek
      rw [eu] at h2
      simp (disch := omega) only [ek, not_false_eq_true, if_true, g_X12_again_99, g_X12_again_100, g_X12_again_101, g_X12_again_102, g_X12_again_105, g_X12_again_106, g_X12_again_107, g_X12_again_108, g_X12_again_111, g_X12_again_114, g_X12_again_115, lk_X12_again, g_X12_again_130, g_X12_again_131, g_X12_again_132, g_X12_again_135, lk_X12_again, XI, Nat.reduceAdd, Nat.reduceEqDiff, not_false_eq_true, nI_T1, nI_T0, true_and, and_true, WC, WV, WU, nI_leS, nI_cl, rs_in_t, l0, nI_eqS, nI_addS]
      exact h2
end
section
variable {D : Dt} {Ds : Option Dt} {L : List Dt} {tp : List Nat} {rea : Int32}
theorem b_again (hS : SOk D Ds L tp) (x0 x1 : Int32) : BC yX11_again yX12_again [.int x0, .int x1] D Ds L tp rea := by
  by_cases c0 : nI 0 ≤ x0 ∧ x0 ≤ nI 11
  · by_cases c1 : nI 0 ≤ x1 ∧ x1 ≤ nI 1
    · obtain ⟨i, -, hi, rfl⟩ := (nI_within (by decide) (by decide)).mp c0
      obtain ⟨w, -, hw1, rfl⟩ := (nI_within (by decide) (by decide)).mp c1
      refine BC_plan hS (.long (if whyD D = 0 then agV D i w else -9223372036854775808)) (Or.inr ⟨_, rfl⟩) (fun d P n s I J R Q h hQ => ?_) (fun d P n s I J R Q h hQ => ?_)
      · rw [em_X11_again]
        simp (disch := omega) only [g_X11_again_0, g_X11_again_1, g_X11_again_4, g_X11_again_7, g_X11_again_8, g_X11_again_11, g_X11_again_14, g_X11_again_17, g_X11_again_18, g_X11_again_19, lk_X11_again, XI, Nat.reduceAdd, Nat.reduceEqDiff, not_false_eq_true, nI_T1, nI_T0, true_and, and_true, WC, WV, WU, rs_b_0, rs_b_ok2, true_or, or_true, Classical.not_not, not_true_eq_false, if_true, if_false, reduceCtorEq, s_X11_isIngredient, s_X11_isRecipe, s_X11_isWithin, s_X11_isPart, c0, c1]
        refine c_findPlan P n s I J R (d + 36) _ hS.1 h ?_
        intro I' J' h' f1 f2 hv
        have hQ' := hQ I' J' h' f1 f2
        by_cases hw : ¬ whyD D = 0
        · rw [if_neg hw] at hQ'
          simp (disch := omega) only [g_X11_again_22, g_X11_again_25, g_X11_again_26, g_X11_again_29, g_X11_again_30, g_X11_again_33, g_X11_again_36, g_X11_again_39, g_X11_again_42, lk_X11_again, XI, Nat.reduceAdd, Nat.reduceEqDiff, not_false_eq_true, nI_T1, nI_T0, true_and, and_true, WC, WV, WU, rs_b_0, rs_b_ok2, true_or, or_true, Classical.not_not, not_true_eq_false, if_true, if_false, reduceCtorEq, hw]
          exact hQ'
        have hw := Classical.not_not.mp hw
        obtain ⟨b47, b49, b53, b45⟩ := hv hw
        rw [if_pos hw] at hQ'
        obtain ⟨q, hR, hq⟩ := h'.2.1
        obtain ⟨p, hp, hpl, hgd⟩ := whyD_g hw
        rw [if_pos hw] at hQ
        unfold agV at hQ
        rw [hpl] at hQ
        simp (disch := omega) only [g_X11_again_22, g_X11_again_25, g_X11_again_26, g_X11_again_29, g_X11_again_30, g_X11_again_33, lk_X11_again, XI, Nat.reduceAdd, Nat.reduceEqDiff, not_false_eq_true, nI_T1, nI_T0, true_and, and_true, WC, WV, WU, rs_b_0, rs_b_ok2, true_or, or_true, Classical.not_not, not_true_eq_false, if_true, if_false, reduceCtorEq, hw, hR, va_rf, k_St P n s I' J' R hq]
        refine s_findAgain P n s I' J' R (d + 51) _ hq hS.1 hp hgd (fun x hx => ?_) (fun hx F' S' => ?_)
        · rw [hx] at hQ
          have hx2 := agR_ok hS.1 8 _ _ _ (zOk_0 (hS.1.2.2.2.2 p.1 p.2 hp).2.1) hx
          simp (disch := omega) only [g_X11_again_36, g_X11_again_39, g_X11_again_42, g_X11_again_43, g_X11_again_44, g_X11_again_47, g_X11_again_50, g_X11_again_51, g_X11_again_54, g_X11_again_55, g_X11_again_58, lk_X11_again, XI, Nat.reduceAdd, Nat.reduceEqDiff, not_false_eq_true, nI_T1, nI_T0, true_and, and_true, WC, WV, WU, rs_b_0, rs_b_ok2, true_or, or_true, Classical.not_not, not_true_eq_false, if_true, if_false, reduceCtorEq, nI_10f, not_false_eq_true, if_true, su_at_50, AJ_51 J' x.1 x.2 (show i < 12 by omega), s_X11_partOf _ _ _ (hx2.2 i (by omega)), nI_eq0S]
          exact hQ _ _ h' f1 (fC_t f2 (AJ_f _ _ _))
        · rw [hx] at hQ
          simp (disch := omega) only [g_X11_again_36, g_X11_again_39, g_X11_again_42, lk_X11_again, XI, Nat.reduceAdd, Nat.reduceEqDiff, not_false_eq_true, nI_T1, nI_T0, true_and, and_true, WC, WV, WU, rs_b_0, rs_b_ok2, true_or, or_true, Classical.not_not, not_true_eq_false, if_true, if_false, reduceCtorEq]
          exact hQ _ _ h' f1 (fC_t f2 (AJ_f _ _ _))
      · rw [em_X12_again]
        by_cases hp : D.pl = none
        · have hw : ¬ whyD D = 0 := fun z => whyD_p z hp
          have hQ' := hQ I J (by rw [reaD_n hp]; exact h) (fR_r I) (fR_r J)
          rw [if_neg hw] at hQ'
          simp (disch := omega) only [g_X12_again_0, g_X12_again_1, g_X12_again_4, g_X12_again_7, g_X12_again_8, g_X12_again_9, g_X12_again_10, g_X12_again_13, g_X12_again_16, g_X12_again_17, g_X12_again_20, g_X12_again_30, g_X12_again_33, lk_X12_again, XI, Nat.reduceAdd, Nat.reduceEqDiff, not_false_eq_true, nI_T1, nI_T0, true_and, and_true, WC, WV, WU, rs_b_0, rs_b_ok2, true_or, or_true, Classical.not_not, not_true_eq_false, if_true, if_false, reduceCtorEq, s_X12_isIngredient, s_X12_isNumber, s_X12_in, c0, c1, r_hasPlan _ _ _ _ _ _ _ _ h.1 hS.1, hp]
          exact hQ'
        simp (disch := omega) only [g_X12_again_0, g_X12_again_1, g_X12_again_4, g_X12_again_7, g_X12_again_8, g_X12_again_9, g_X12_again_10, g_X12_again_13, g_X12_again_16, g_X12_again_17, g_X12_again_20, g_X12_again_23, g_X12_again_24, lk_X12_again, XI, Nat.reduceAdd, Nat.reduceEqDiff, not_false_eq_true, nI_T1, nI_T0, true_and, and_true, WC, WV, WU, rs_b_0, rs_b_ok2, true_or, or_true, Classical.not_not, not_true_eq_false, if_true, if_false, reduceCtorEq, s_X12_isIngredient, s_X12_isNumber, s_X12_in, c0, c1, r_hasPlan _ _ _ _ _ _ _ _ h.1 hS.1, hp]
        refine r_isFound P n s I J R (d + 54) _ hS.1 h hp ?_
        intro I' J' h' f1 f2 hv
        have hQ' := hQ I' J' h' f1 f2
        by_cases hw : ¬ whyD D = 0
        · rw [if_neg hw] at hQ'
          simp (disch := omega) only [g_X12_again_27, g_X12_again_30, g_X12_again_33, lk_X12_again, XI, Nat.reduceAdd, Nat.reduceEqDiff, not_false_eq_true, nI_T1, nI_T0, true_and, and_true, WC, WV, WU, rs_b_0, rs_b_ok2, true_or, or_true, Classical.not_not, not_true_eq_false, if_true, if_false, reduceCtorEq, hw]
          exact hQ'
        have hw := Classical.not_not.mp hw
        obtain ⟨b1, b2, b3, b4⟩ := hv hw
        rw [if_pos hw] at hQ'
        obtain ⟨p, hp2, hpl, hgd⟩ := whyD_g hw
        have p8 := (hS.1.2.2.2.2 p.1 p.2 hp2).1
        have pF := (hS.1.2.2.2.2 p.1 p.2 hp2).2.1
        have hP := h'.1.2.2.2.2
        rw [hp2] at hP
        obtain ⟨l0, l1, l2⟩ := hP
        have ep := pow_lt8 p8
        have hc := conD_le hS.1 p.1
        rw [if_pos hw] at hQ
        unfold agV at hQ
        rw [hpl] at hQ
        simp (disch := omega) only [g_X12_again_27, lk_X12_again, g_X12_again_34, g_X12_again_35, lk_X12_again, XI, Nat.reduceAdd, Nat.reduceEqDiff, not_false_eq_true, nI_T1, nI_T0, true_and, and_true, WC, WV, WU, rs_b_0, rs_b_ok2, true_or, or_true, Classical.not_not, not_true_eq_false, if_true, if_false, reduceCtorEq, hw]
        have z0 : J0k J' 0 = J' := by unfold J0k; rw [cpU_0, cpU_0]
        have z1 : J1k (J0k J' 12) (upS S00 p.1 p.2) 0 = J0k J' 12 := by unfold J1k; rw [cpU_0, cpU_0]
        rw [← z0]
        refine X12_ag_0 P n s R _ _ I' J' _ _ none 12 0 rfl ?_
        simp (disch := omega) only [g_X12_again_62, g_X12_again_63, lk_X12_again, XI, Nat.reduceAdd, Nat.reduceEqDiff, not_false_eq_true, nI_T1, nI_T0, true_and, and_true, WC, WV, WU]
        rw [← z1]
        refine X12_ag_1 P n s R _ _ I' (J0k J' 12) p8 pF l0 l1 l2 _ _ none 8 0 rfl ?_
        have hM1 : mDt (rs_u2 I' 61 8 (nI 0) 62) D := by
          rw [show rs_u2 I' 61 8 (nI 0) 62 = I' 62 from funext fun j => rs_u2_ne _ _ (by omega)]
          exact h'.1
        have e445 : rs_u2 I' 61 8 (nI 0) 62 445 = nI p.1 := by rw [rs_u2_ne _ _ (by omega)]; exact l0
        simp (disch := omega) only [g_X12_again_138, g_X12_again_139, g_X12_again_140, g_X12_again_143, g_X12_again_144, g_X12_again_145, g_X12_again_148, g_X12_again_151, g_X12_again_152, g_X12_again_155, g_X12_again_156, g_X12_again_157, g_X12_again_160, g_X12_again_163, g_X12_again_164, g_X12_again_165, g_X12_again_166, lk_X12_again, XI, Nat.reduceAdd, Nat.reduceEqDiff, not_false_eq_true, nI_T1, nI_T0, true_and, and_true, WC, WV, WU, nI_cl, rs_in_t, e445, s_contained P n s _ _ R _ _ hM1 hS.1 p8, bt_shl, Nat.one_mul, bt_or]
        rw [Nat.or_comm]
        have fi0 : fI I' (rs_u2 I' 61 8 (nI 0)) := fun q j a => rs_u2_ne _ _ a
        have fj0 : aA J' (J1k (J0k J' 12) (upS S00 p.1 p.2) 8) := fun q j a b c e f => by
          unfold J1k J0k
          rw [cpU_ne _ _ _ _ _ _ f, cpU_ne _ _ _ _ _ _ e, cpU_ne _ _ _ _ _ _ c, cpU_ne _ _ _ _ _ _ b]
        have hA0 : AS (rs_u2 I' 61 8 (nI 0)) (J1k (J0k J' 12) (upS S00 p.1 p.2) 8) (upS S00 p.1 p.2, S00) := by
          refine ⟨rs_u2_eq _ _ _ _, fun i hi => ?_, fun i hi => ?_⟩
          · unfold J1k J0k
            rw [cpU_ne _ _ _ _ _ _ (by decide), cpU_ne _ _ _ _ _ _ (by decide), cpU_ne _ _ _ _ _ _ (by decide), cpU_in _ _ _ _ _ (Nat.zero_le i) hi, cpU_ne _ _ _ _ _ _ (by decide), cpU_ne _ _ _ _ _ _ (by decide), cpU_in _ _ _ _ _ (Nat.zero_le i) hi]
            exact ⟨rfl, rfl⟩
          · unfold J1k
            rw [cpU_ne _ _ _ _ _ _ (by decide), cpU_in _ _ _ _ _ (Nat.zero_le i) hi, cpU_in _ _ _ _ _ (Nat.zero_le i) hi]
            exact ⟨rfl, rfl⟩
        have hfr : ∀ I2 J2, fI (rs_u2 I' 61 8 (nI 0)) I2 → aA (J1k (J0k J' 12) (upS S00 p.1 p.2) 8) J2 → RI I2 D Ds L tp (reaD D rea) ∧ fR I I2 ∧ fR J J2 := fun I2 J2 gi gj => by
          have g2 : hI I' I2 := fun q j a b c e => by rw [gi q j (by omega), fi0 q j (by omega)]
          exact ⟨RI_h h' g2 (by rw [gi 61 5 (by omega), fi0 61 5 (by omega)]; exact h'.2.2.2.2.1), fR_t f1 (hI_R g2), fR_t f2 (aA_R (aA_t fj0 gj))⟩
        refine X12_ag_l P n s R (d + 56) _ hS.1 _ _ 8 _ _ _ _ _ _ (pc8_le _) (or_lt8 ep hc) (gds_all hgd) hM1 hA0 (zOk_0 pF) (fun x I2 J2 z4 hx gi gj hA => ?_) (fun I2 J2 z4 hx gi gj h8 => ?_)
        · have hx : agD D p = some x := hx
          rw [hx] at hQ
          obtain ⟨t1, t2, t3⟩ := hfr I2 J2 gi gj
          have q1 := (hA.2.1 i (by omega)).1
          have q2 := (hA.2.1 i (by omega)).2
          have hQ2 := hQ I2 J2 t1 t2 t3
          dsimp only at hQ2
          by_cases e : w = 0
          · subst e
            rw [if_pos rfl] at hQ2
            simp (disch := omega) only [g_X12_again_196, g_X12_again_197, g_X12_again_200, g_X12_again_203, g_X12_again_206, g_X12_again_209, g_X12_again_210, g_X12_again_213, g_X12_again_214, g_X12_again_217, g_X12_again_218, g_X12_again_219, g_X12_again_222, g_X12_again_223, g_X12_again_226, g_X12_again_227, g_X12_again_228, lk_X12_again, XI, Nat.reduceAdd, Nat.reduceEqDiff, not_false_eq_true, nI_T1, nI_T0, true_and, and_true, WC, WV, WU, rs_b_0, rs_b_ok2, true_or, or_true, Classical.not_not, not_true_eq_false, if_true, if_false, reduceCtorEq, hA.1, nI_00, not_true_eq_false, if_true, if_false, nI_cl, rs_in_t, q1]
            exact hQ2
          · rw [if_neg e] at hQ2
            simp (disch := omega) only [g_X12_again_196, g_X12_again_197, g_X12_again_200, g_X12_again_203, g_X12_again_206, g_X12_again_209, g_X12_again_210, g_X12_again_213, g_X12_again_214, g_X12_again_217, g_X12_again_218, g_X12_again_219, g_X12_again_222, g_X12_again_223, g_X12_again_226, g_X12_again_227, g_X12_again_228, lk_X12_again, XI, Nat.reduceAdd, Nat.reduceEqDiff, not_false_eq_true, nI_T1, nI_T0, true_and, and_true, WC, WV, WU, rs_b_0, rs_b_ok2, true_or, or_true, Classical.not_not, not_true_eq_false, if_true, if_false, reduceCtorEq, hA.1, nI_00, nI_eq0S, e, not_true_eq_false, not_false_eq_true, if_true, if_false, nI_cl, rs_in_t, q2]
            exact hQ2
        · have hx : agD D p = none := hx
          rw [hx] at hQ
          obtain ⟨t1, t2, t3⟩ := hfr I2 J2 gi gj
          simp (disch := omega) only [g_X12_again_196, g_X12_again_197, g_X12_again_200, g_X12_again_203, g_X12_again_206, lk_X12_again, g_X12_again_228, lk_X12_again, XI, Nat.reduceAdd, Nat.reduceEqDiff, not_false_eq_true, nI_T1, nI_T0, true_and, and_true, WC, WV, WU, rs_b_0, rs_b_ok2, true_or, or_true, Classical.not_not, not_true_eq_false, if_true, if_false, reduceCtorEq, h8, nI_10f, not_false_eq_true, if_true]
          exact hQ I2 J2 t1 t2 t3
    · refine BC_same hS (.long (-9223372036854775808)) (Or.inr ⟨_, rfl⟩) (fun d P n s I J R Q h hQ => ?_) (fun d P n s I J R Q h hQ => ?_)
      · rw [em_X11_again]
        simp (disch := omega) only [g_X11_again_0, g_X11_again_1, g_X11_again_4, g_X11_again_7, g_X11_again_8, g_X11_again_11, g_X11_again_14, g_X11_again_17, lk_X11_again, XI, Nat.reduceAdd, Nat.reduceEqDiff, not_false_eq_true, nI_T1, nI_T0, true_and, and_true, WC, WV, WU, rs_b_0, rs_b_ok2, true_or, or_true, Classical.not_not, not_true_eq_false, if_true, if_false, reduceCtorEq, s_X11_isIngredient, s_X11_isRecipe, s_X11_isWithin, s_X11_isPart, c0, c1]
        exact hQ
      · rw [em_X12_again]
        simp (disch := omega) only [g_X12_again_0, g_X12_again_1, g_X12_again_4, g_X12_again_7, g_X12_again_8, g_X12_again_9, g_X12_again_10, g_X12_again_13, g_X12_again_30, g_X12_again_33, lk_X12_again, XI, Nat.reduceAdd, Nat.reduceEqDiff, not_false_eq_true, nI_T1, nI_T0, true_and, and_true, WC, WV, WU, rs_b_0, rs_b_ok2, true_or, or_true, Classical.not_not, not_true_eq_false, if_true, if_false, reduceCtorEq, s_X12_isIngredient, s_X12_isNumber, s_X12_in, c0, c1]
        exact hQ
  · refine BC_same hS (.long (-9223372036854775808)) (Or.inr ⟨_, rfl⟩) (fun d P n s I J R Q h hQ => ?_) (fun d P n s I J R Q h hQ => ?_)
    · rw [em_X11_again]
      simp (disch := omega) only [g_X11_again_0, g_X11_again_1, g_X11_again_4, g_X11_again_7, g_X11_again_8, g_X11_again_11, g_X11_again_14, g_X11_again_17, lk_X11_again, XI, Nat.reduceAdd, Nat.reduceEqDiff, not_false_eq_true, nI_T1, nI_T0, true_and, and_true, WC, WV, WU, rs_b_0, rs_b_ok2, true_or, or_true, Classical.not_not, not_true_eq_false, if_true, if_false, reduceCtorEq, s_X11_isIngredient, s_X11_isRecipe, s_X11_isWithin, s_X11_isPart, c0]
      exact hQ
    · rw [em_X12_again]
      simp (disch := omega) only [g_X12_again_0, g_X12_again_1, g_X12_again_4, g_X12_again_7, g_X12_again_8, g_X12_again_9, g_X12_again_10, g_X12_again_13, g_X12_again_30, g_X12_again_33, lk_X12_again, XI, Nat.reduceAdd, Nat.reduceEqDiff, not_false_eq_true, nI_T1, nI_T0, true_and, and_true, WC, WV, WU, rs_b_0, rs_b_ok2, true_or, or_true, Classical.not_not, not_true_eq_false, if_true, if_false, reduceCtorEq, s_X12_isIngredient, s_X12_isNumber, s_X12_in, c0]
      exact hQ
end
