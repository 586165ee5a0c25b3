/-! a substitution is made -/
theorem rs_s4_6 (a b c : Int32) (q r t : Nat) : rs_s4 [.int a, .int b, .ref q, .ref r, .int c, .ref t] = true := rfl
/-- the greatest value of a kind -/
def mostV (ki : Nat) : Nat := if ki = 1 then 7 else if ki = 2 then 999999 else 0
theorem mostV_le (ki : Nat) : mostV ki ≤ 999999 := by unfold mostV; split <;> (try split) <;> decide
theorem s_great (d : Nat) (w : rs_H) (Q : rs_H → Option Value → Prop) {ki : Nat} (hk : ki ≤ 3) : rs_XM d yX8_greatestValue [.int (nI ki)] w Q ↔ Q w (some (.int (nI (mostV ki)))) := by
  rw [em_X8_greatestValue]
  unfold mostV
  simp (disch := omega) only [K_X8_greatestValue, lk_X8_greatestValue, XI, Nat.reduceAdd, Nat.reduceEqDiff, not_false_eq_true, nI_T1, nI_T0, true_and, and_true, nI_eqS]
  by_cases e1 : ki = 1
  · rw [if_neg (fun z => z e1), if_pos e1]
  · rw [if_pos e1, if_neg e1]
    by_cases e2 : ki = 2
    · rw [if_neg (fun z => z e2), if_pos e2]
    · rw [if_pos e2, if_neg e2]
theorem x12_most {d : Nat} {w : rs_H} {ki : Nat} {Q : rs_H → Option Value → Prop} {a : rs_L} : (if ¬ ki = 1 then (if ¬ ki = 2 then rs_X d yX12_substitute 49 a [.int (nI 0)] w Q else rs_X d yX12_substitute 49 a [.int (nI 999999)] w Q) else rs_X d yX12_substitute 49 a [.int (nI 7)] w Q) ↔ rs_X d yX12_substitute 49 a [.int (nI (mostV ki))] w Q := by
  unfold mostV
  by_cases e1 : ki = 1
  · rw [if_neg (fun z => z e1), if_pos e1]
  · rw [if_pos e1, if_neg e1]
    by_cases e2 : ki = 2
    · rw [if_neg (fun z => z e2), if_pos e2]
    · rw [if_pos e2, if_neg e2]
theorem oSt_m {P P' : Nat → Option rs_C} {b b' q a c e : Nat} {V Ua Uc Ue : Nat → Value} {D : Dt} (hP : ∀ i, i < b → P' i = P i) (hb : b ≤ b') (h : oSt P b q a c e V Ua Uc Ue D) : oSt P' b' q a c e V Ua Uc Ue D := by
  obtain ⟨h1, h2, h3, h4, v0, v1, v2, h5, h6, h7, h8, h9, h10⟩ := h
  refine ⟨cP_m hP hb h1, cP_m hP hb h2, cP_m hP hb h3, cP_m hP hb h4, v0, v1, v2, h5, h6, ?_, ?_, h9, ?_⟩
  · intro r X hr hz
    obtain ⟨y, hy, cy⟩ := h7 r X hr hz
    exact ⟨y, hy, cRc_m hP hb cy⟩
  · intro j hj
    obtain ⟨y, hy, cy⟩ := h8 j hj
    exact ⟨y, hy, cIg_m hP hb cy⟩
  · intro k t hk2 ht
    obtain ⟨y, hy, cy⟩ := h10 k t hk2 ht
    exact ⟨y, hy, cSb_m hP hb cy⟩
theorem app_sb (l : List Sb) (x : Sb) {k : Nat} {v : Sb} (h : (l ++ [x])[k]? = some v) : (k < l.length ∧ l[k]? = some v) ∨ (k = l.length ∧ v = x) := by
  by_cases e : k < l.length
  · rw [List.getElem?_append_left e] at h
    exact Or.inl ⟨e, h⟩
  · have h2 := (List.getElem?_eq_some_iff.mp h).1
    rw [List.length_append, List.length_singleton] at h2
    rw [List.getElem?_append_right (by omega), show k - l.length = 0 by omega] at h
    cases h
    exact Or.inr ⟨by omega, rfl⟩
section
variable {D : Dt} {Ds : Option Dt} {L : List Dt} {tp : List Nat} {rea : Int32}
theorem b_substitute (hS : SOk D Ds L tp) (x0 x1 x2 x3 x4 x5 : Int32) : BC yX11_substitute yX12_substitute [.int x0, .int x1, .int x2, .int x3, .int x4, .int x5] D Ds L tp rea := by
  by_cases c0 : nI 0 ≤ x0 ∧ x0 ≤ nI 11
  · by_cases c1 : nI 0 ≤ x1 ∧ x1 ≤ nI 11
    · by_cases c2 : nI 0 ≤ x4 ∧ x4 ≤ nI 3
      · obtain ⟨x, -, hx0, rfl⟩ := (nI_within (by decide) (by decide)).mp c0
        obtain ⟨y, -, hy0, rfl⟩ := (nI_within (by decide) (by decide)).mp c1
        obtain ⟨ki, -, hki, rfl⟩ := (nI_within (by decide) (by decide)).mp c2
        have hmv := mostV_le ki
        by_cases hxy : x = y
        · have e := eq_true hxy
          refine BC_same hS (.int (-2)) (Or.inl ⟨_, rfl⟩) (fun d P n s I J R Q h hQ => ?_) (fun d P n s I J R Q h hQ => ?_)
          · rw [em_X11_substitute]
            simp (disch := omega) only [g_X11_substitute_0, g_X11_substitute_1, g_X11_substitute_4, g_X11_substitute_7, g_X11_substitute_8, g_X11_substitute_11, g_X11_substitute_14, g_X11_substitute_16, g_X11_substitute_17, g_X11_substitute_18, g_X11_substitute_21, g_X11_substitute_24, g_X11_substitute_25, g_X11_substitute_26, g_X11_substitute_27, g_X11_substitute_28, g_X11_substitute_31, g_X11_substitute_32, g_X11_substitute_33, g_X11_substitute_36, g_X11_substitute_39, g_X11_substitute_42, g_X11_substitute_44, g_X11_substitute_45, g_X11_substitute_48, g_X11_substitute_51, g_X11_substitute_54, g_X11_substitute_56, g_X11_substitute_57, g_X11_substitute_59, g_X11_substitute_62, g_X11_substitute_65, g_X11_substitute_68, g_X11_substitute_70, lk_X11_substitute, XI, Nat.reduceAdd, Nat.reduceEqDiff, not_false_eq_true, nI_T1, nI_T0, true_and, and_true, WC, WV, WU, rs_b_0, rs_b_ok2, true_or, or_true, Classical.not_not, not_true_eq_false, if_true, if_false, reduceCtorEq, s_X11_isIngredient, s_X11_isWithin, s_great _ _ _ hki, c0, c1, c2, nI_eqS, e]
            exact hQ
          · rw [em_X12_substitute]
            simp (disch := omega) only [g_X12_substitute_0, g_X12_substitute_1, g_X12_substitute_4, g_X12_substitute_7, g_X12_substitute_8, g_X12_substitute_11, g_X12_substitute_14, g_X12_substitute_16, g_X12_substitute_17, g_X12_substitute_18, g_X12_substitute_21, g_X12_substitute_24, g_X12_substitute_25, g_X12_substitute_26, g_X12_substitute_28, g_X12_substitute_29, g_X12_substitute_32, g_X12_substitute_34, g_X12_substitute_37, g_X12_substitute_39, g_X12_substitute_40, g_X12_substitute_43, g_X12_substitute_45, g_X12_substitute_48, lk_X12_substitute, XI, Nat.reduceAdd, Nat.reduceEqDiff, not_false_eq_true, nI_T1, nI_T0, true_and, and_true, WC, WV, WU, rs_b_0, rs_b_ok2, true_or, or_true, Classical.not_not, not_true_eq_false, if_true, if_false, reduceCtorEq, s_X12_isIngredient, s_X12_in, c0, c1, c2, nI_eqS]
            refine x12_most.mpr ?_
            simp (disch := omega) only [g_X12_substitute_49, g_X12_substitute_51, g_X12_substitute_52, g_X12_substitute_53, g_X12_substitute_56, g_X12_substitute_57, g_X12_substitute_58, g_X12_substitute_61, g_X12_substitute_64, g_X12_substitute_67, g_X12_substitute_69, g_X12_substitute_70, g_X12_substitute_73, g_X12_substitute_76, g_X12_substitute_79, g_X12_substitute_81, g_X12_substitute_82, g_X12_substitute_84, g_X12_substitute_87, g_X12_substitute_90, g_X12_substitute_92, lk_X12_substitute, XI, Nat.reduceAdd, Nat.reduceEqDiff, not_false_eq_true, nI_T1, nI_T0, true_and, and_true, WC, WV, WU, rs_b_0, rs_b_ok2, true_or, or_true, Classical.not_not, not_true_eq_false, if_true, if_false, reduceCtorEq, s_X12_in, nI_eqS, e]
            exact hQ
        · by_cases c3 : nI 1 ≤ x2 ∧ x2 ≤ nI 999
          · by_cases c4 : nI 1 ≤ x3 ∧ x3 ≤ nI 999
            · by_cases c5 : nI 0 ≤ x5 ∧ x5 ≤ nI (mostV ki)
              · obtain ⟨up, hu1, hu, rfl⟩ := (nI_within (by decide) (by decide)).mp c3
                obtain ⟨dn, hd1, hd, rfl⟩ := (nI_within (by decide) (by decide)).mp c4
                obtain ⟨va, -, hva, rfl⟩ := (nI_within (by decide) (by omega)).mp c5
                have hl := hS.1.2.2.1
                have ht : (Sb.mk x y up dn ki va).ok := by
                  refine ⟨show x < 12 by omega, show y < 12 by omega, hxy, hu1, hu, hd1, hd, hki, show va ≤ 999999 by omega, fun e => ?_, fun e => ?_⟩
                  · have e : ki = 1 := e
                    unfold mostV at hva
                    rw [if_pos e] at hva
                    exact hva
                  · have e : ki = 0 ∨ ki = 3 := e
                    unfold mostV at hva
                    rw [if_neg (by omega), if_neg (by omega)] at hva
                    show va = 0
                    omega
                by_cases hf : D.sb.length < 6
                · have hf2 : ¬ D.sb.length = 6 := by omega
                  have hD' : (D.setS (D.sb ++ [Sb.mk x y up dn ki va])).ok := by
                    refine Dt.setS_ok hS.1 (by rw [List.length_append, List.length_singleton]; omega) ?_
                    intro k t hk
                    rcases app_sb _ _ hk with ⟨_, e⟩ | ⟨_, e⟩
                    · exact hS.1.2.2.2.1 k t e
                    · rw [e]; exact ht
                  refine ⟨D.setS (D.sb ++ [Sb.mk x y up dn ki va]), Ds, nxL L D, tp, rea, .int (nI D.sb.length), nxL_ok hS hD', fun d P n s I J R Q h hQ => ?_, fun d P n s I J R Q g8 h hQ => ?_, Or.inl ⟨_, rfl⟩⟩
                  · obtain ⟨q, hR, hq⟩ := h.2.1
                    have h84 := h.1
                    rw [em_X11_substitute]
                    simp (disch := omega) only [g_X11_substitute_0, g_X11_substitute_1, g_X11_substitute_4, g_X11_substitute_7, g_X11_substitute_8, g_X11_substitute_11, g_X11_substitute_14, g_X11_substitute_16, g_X11_substitute_17, g_X11_substitute_18, g_X11_substitute_21, g_X11_substitute_24, g_X11_substitute_25, g_X11_substitute_26, g_X11_substitute_27, g_X11_substitute_28, g_X11_substitute_31, g_X11_substitute_32, g_X11_substitute_33, g_X11_substitute_36, g_X11_substitute_39, g_X11_substitute_42, g_X11_substitute_44, g_X11_substitute_45, g_X11_substitute_48, g_X11_substitute_51, g_X11_substitute_54, g_X11_substitute_56, g_X11_substitute_57, g_X11_substitute_59, g_X11_substitute_62, g_X11_substitute_65, g_X11_substitute_68, g_X11_substitute_70, g_X11_substitute_71, g_X11_substitute_72, g_X11_substitute_75, g_X11_substitute_78, g_X11_substitute_80, g_X11_substitute_82, g_X11_substitute_84, g_X11_substitute_87, g_X11_substitute_89, g_X11_substitute_90, g_X11_substitute_91, g_X11_substitute_94, lk_X11_substitute, XI, Nat.reduceAdd, Nat.reduceEqDiff, not_false_eq_true, nI_T1, nI_T0, true_and, and_true, WC, WV, WU, rs_b_0, rs_b_ok2, true_or, or_true, Classical.not_not, not_true_eq_false, if_true, if_false, reduceCtorEq, s_X11_isIngredient, s_X11_isWithin, s_great _ _ _ hki, c0, c1, c2, c3, c4, c5, nI_eqS, hxy, hR, va_rf, k_St P n s I J R hq, s_scount n s I J R _ _ hq hS.1, nI_ltS, hf]
                    refine s_X7_copy n s I J R (d + 57) _ h84 hq ?_
                    intro P1 V Ua Uc Ue o1 p1
                    have kx : sk_kn (n + 4) = none := sk_kn_ge _ (by omega)
                    simp (disch := omega) only [g_X11_substitute_97, g_X11_substitute_99, g_X11_substitute_101, g_X11_substitute_103, g_X11_substitute_106, g_X11_substitute_107, g_X11_substitute_108, g_X11_substitute_109, g_X11_substitute_110, g_X11_substitute_111, g_X11_substitute_113, g_X11_substitute_114, g_X11_substitute_117, g_X11_substitute_119, g_X11_substitute_121, lk_X11_substitute, XI, Nat.reduceAdd, Nat.reduceEqDiff, not_false_eq_true, nI_T1, nI_T0, true_and, and_true, WC, WV, WU, sk_new, sk_nx, nI_long (show up ≤ 1000000000 by omega), nI_long (show dn ≤ 1000000000 by omega), s_X0_of _ _ _ (show up < 2 ^ 63 by omega) hd1 (show dn ≤ 1000000000000000000 by omega), em_X8_init, K_X8_init, lk_X8_init, rs_s4_6, sk_pool kx, sk_up_p kx, vu_eq, vu_vu]
                    generalize hP3 : va_up P1 (n + 4) _ = P3
                    have p3 : ∀ i, i < n + 4 → P3 i = P1 i := fun i hi => by rw [← hP3, vu_ne _ _ (by omega)]
                    have o3 := oSt_m (b' := n + 4 + 1) p3 (by omega) o1
                    have hc : cSb P3 (n + 4 + 1) (n + 4) (Sb.mk x y up dn ki va) := ⟨_, ⟨by omega, kx, by rw [← hP3, vu_eq]⟩, rfl, rfl, rfl, rfl, rfl⟩
                    have kk := k_oSt (n + 4 + 1) (s + 31 + 5) I J R o3
                    simp (disch := omega) only [g_X11_substitute_124, lk_X11_substitute, XI, Nat.reduceAdd, Nat.reduceEqDiff, not_false_eq_true, nI_T1, nI_T0, true_and, and_true, WC, WV, WU, kk]
                    have hge : ∀ k, ¬ k = D.sb.length → (D.sb ++ [Sb.mk x y up dn ki va])[k]? = D.sb[k]? := by
                      intro k hk
                      by_cases e : k < D.sb.length
                      · rw [List.getElem?_append_left e]
                      · rw [List.getElem?_eq_none (by rw [List.length_append, List.length_singleton]; omega), List.getElem?_eq_none (by omega)]
                    have hgl : (D.sb ++ [Sb.mk x y up dn ki va])[D.sb.length]? = some (Sb.mk x y up dn ki va) := by
                      rw [List.getElem?_append_right (Nat.le_refl _), Nat.sub_self]
                      rfl
                    refine p_sub (n + 4 + 1) _ I J R _ _ o3 (by omega) hf (some (n + 4)) (D.sb ++ [Sb.mk x y up dn ki va]) hge (fun z => by rw [hgl] at z; cases z) (fun X z => by rw [hgl] at z; cases z; exact ⟨_, rfl, hc⟩) ?_
                    intro o4
                    simp (disch := omega) only [g_X11_substitute_127, g_X11_substitute_128, g_X11_substitute_130, lk_X11_substitute, XI, Nat.reduceAdd, Nat.reduceEqDiff, not_false_eq_true, nI_T1, nI_T0, true_and, and_true, WC, WV, WU]
                    have hP4 : ∀ j, j < n → va_up P3 (n + 3) (some (19, 6, va_up Ue D.sb.length (va_rf (some (n + 4))))) j = P j := fun j hj => by rw [vu_ne _ _ (by omega), p3 j (by omega)]; exact p1 j hj
                    refine s_commit (n + 4 + 1) _ I J R _ _ hS h hP4 (by omega) (cSt_o.mpr ⟨_, _, _, _, _, _, _, o4⟩) ?_
                    intro I' R' h' f'
                    simp (disch := omega) only [g_X11_substitute_133, g_X11_substitute_135, lk_X11_substitute, XI, Nat.reduceAdd, Nat.reduceEqDiff, not_false_eq_true, nI_T1, nI_T0, true_and, and_true, WC, WV, WU]
                    exact hQ _ _ _ I' J R' h' f' (fC_r J) (by omega) (by omega)
                  · have e408 : I 62 408 = nI D.sb.length := h.1.2.2.1
                    have hL := hS.2.2.1
                    have k62 : ∀ j, kpI I L.length 62 j = I 62 j := fun j => kpI_ne I _ (by omega) (by decide)
                    generalize hlen : D.sb.length = len at *
                    rw [em_X12_substitute]
                    simp (disch := omega) only [g_X12_substitute_0, g_X12_substitute_1, g_X12_substitute_4, g_X12_substitute_7, g_X12_substitute_8, g_X12_substitute_11, g_X12_substitute_14, g_X12_substitute_16, g_X12_substitute_17, g_X12_substitute_18, g_X12_substitute_21, g_X12_substitute_24, g_X12_substitute_25, g_X12_substitute_26, g_X12_substitute_28, g_X12_substitute_29, g_X12_substitute_32, g_X12_substitute_34, g_X12_substitute_37, g_X12_substitute_39, g_X12_substitute_40, g_X12_substitute_43, g_X12_substitute_45, g_X12_substitute_48, lk_X12_substitute, XI, Nat.reduceAdd, Nat.reduceEqDiff, not_false_eq_true, nI_T1, nI_T0, true_and, and_true, WC, WV, WU, rs_b_0, rs_b_ok2, true_or, or_true, Classical.not_not, not_true_eq_false, if_true, if_false, reduceCtorEq, s_X12_isIngredient, s_X12_in, c0, c1, c2, nI_eqS]
                    refine x12_most.mpr ?_
                    simp (disch := omega) only [g_X12_substitute_49, g_X12_substitute_51, g_X12_substitute_52, g_X12_substitute_53, g_X12_substitute_56, g_X12_substitute_57, g_X12_substitute_58, g_X12_substitute_61, g_X12_substitute_64, g_X12_substitute_67, g_X12_substitute_69, g_X12_substitute_70, g_X12_substitute_73, g_X12_substitute_76, g_X12_substitute_79, g_X12_substitute_81, g_X12_substitute_82, g_X12_substitute_84, g_X12_substitute_87, g_X12_substitute_90, g_X12_substitute_92, g_X12_substitute_93, g_X12_substitute_94, g_X12_substitute_97, g_X12_substitute_100, g_X12_substitute_101, g_X12_substitute_103, g_X12_substitute_106, g_X12_substitute_108, g_X12_substitute_109, g_X12_substitute_110, g_X12_substitute_113, g_X12_substitute_116, g_X12_substitute_118, g_X12_substitute_119, g_X12_substitute_122, g_X12_substitute_125, g_X12_substitute_126, g_X12_substitute_127, g_X12_substitute_128, g_X12_substitute_130, g_X12_substitute_131, g_X12_substitute_134, g_X12_substitute_136, g_X12_substitute_137, g_X12_substitute_138, g_X12_substitute_139, g_X12_substitute_142, g_X12_substitute_144, g_X12_substitute_145, g_X12_substitute_146, g_X12_substitute_147, g_X12_substitute_148, g_X12_substitute_149, g_X12_substitute_152, g_X12_substitute_154, g_X12_substitute_155, g_X12_substitute_156, g_X12_substitute_157, g_X12_substitute_158, g_X12_substitute_159, g_X12_substitute_162, g_X12_substitute_164, g_X12_substitute_165, g_X12_substitute_166, g_X12_substitute_168, g_X12_substitute_169, g_X12_substitute_170, g_X12_substitute_173, g_X12_substitute_175, g_X12_substitute_176, g_X12_substitute_177, g_X12_substitute_179, g_X12_substitute_180, g_X12_substitute_181, g_X12_substitute_184, g_X12_substitute_186, g_X12_substitute_187, g_X12_substitute_188, g_X12_substitute_190, g_X12_substitute_191, g_X12_substitute_192, g_X12_substitute_195, g_X12_substitute_198, g_X12_substitute_199, g_X12_substitute_200, g_X12_substitute_201, g_X12_substitute_202, g_X12_substitute_203, g_X12_substitute_204, g_X12_substitute_207, g_X12_substitute_210, g_X12_substitute_211, g_X12_substitute_212, g_X12_substitute_213, lk_X12_substitute, XI, Nat.reduceAdd, Nat.reduceEqDiff, not_false_eq_true, nI_T1, nI_T0, true_and, and_true, WC, WV, WU, rs_b_0, rs_b_ok2, true_or, or_true, Classical.not_not, not_true_eq_false, if_true, if_false, reduceCtorEq, s_X12_in, c3, c4, c5, nI_eqS, hxy, nI_cl, rs_in_t, e408, hf2, s_X12_keep _ P n s I J R _ hL h.2.2.1, k62, nI_mulS, nI_addS, rs_u2_ne, rs_u2_eq, nI_subS, Nat.add_sub_cancel]
                    generalize hI1 : rs_u2 (rs_u2 (rs_u2 (rs_u2 (rs_u2 (rs_u2 (rs_u2 (kpI I L.length) 62 (409 + 6 * len) (nI x)) 62 (409 + 6 * len + 1) (nI y)) 62 (409 + 6 * len + 2) (nI up)) 62 (409 + 6 * len + 3) (nI dn)) 62 (409 + 6 * len + 4) (nI ki)) 62 (409 + 6 * len + 5) (nI va)) 62 408 (nI (len + 1)) = I1
                    have e : ∀ j, ¬ j = 408 → (j < 409 + 6 * len ∨ 409 + 6 * len + 6 ≤ j) → I1 62 j = I 62 j := fun j h1 h2 => by
                      rw [← hI1, rs_u2_ne _ _ (by omega), rs_u2_ne _ _ (by omega), rs_u2_ne _ _ (by omega), rs_u2_ne _ _ (by omega), rs_u2_ne _ _ (by omega), rs_u2_ne _ _ (by omega), rs_u2_ne _ _ (by omega)]
                      exact k62 j
                    have hne : ∀ a2 j, ¬ a2 = 62 → I1 a2 j = kpI I L.length a2 j := fun a2 j h1 => by
                      rw [← hI1, rs_u2_ne _ _ (by omega), rs_u2_ne _ _ (by omega), rs_u2_ne _ _ (by omega), rs_u2_ne _ _ (by omega), rs_u2_ne _ _ (by omega), rs_u2_ne _ _ (by omega), rs_u2_ne _ _ (by omega)]
                    refine hQ I1 J (RI_keep hS h (mDt_S hS.1 (fun j hj => e j (by omega) (by omega)) ?_ ?_ h.1) (fun q j h1 h2 => hne q j h1)) (fun q j hq => by rw [hne q j (by omega)]; exact kpI_R I _ q j hq) (fR_r J)
                    · rw [← hI1, rs_u2_eq, List.length_append, List.length_singleton, hlen]
                    · intro k t hk
                      rcases app_sb _ _ hk with ⟨h1, h2⟩ | ⟨h1, h2⟩
                      · exact mSb_c (fun j a b => e j (by omega) (by omega)) (h.1.2.2.2.1 k t h2)
                      · rw [hlen] at h1
                        rw [h1, h2]
                        refine ⟨?_, ?_, ?_, ?_, ?_, ?_⟩
                        · rw [← hI1, rs_u2_ne _ _ (by omega), rs_u2_ne _ _ (by omega), rs_u2_ne _ _ (by omega), rs_u2_ne _ _ (by omega), rs_u2_ne _ _ (by omega), rs_u2_ne _ _ (by omega), rs_u2_eq]; rfl
                        · rw [← hI1, rs_u2_ne _ _ (by omega), rs_u2_ne _ _ (by omega), rs_u2_ne _ _ (by omega), rs_u2_ne _ _ (by omega), rs_u2_ne _ _ (by omega), rs_u2_eq]; rfl
                        · rw [← hI1, rs_u2_ne _ _ (by omega), rs_u2_ne _ _ (by omega), rs_u2_ne _ _ (by omega), rs_u2_ne _ _ (by omega), rs_u2_eq]; rfl
                        · rw [← hI1, rs_u2_ne _ _ (by omega), rs_u2_ne _ _ (by omega), rs_u2_ne _ _ (by omega), rs_u2_eq]; rfl
                        · rw [← hI1, rs_u2_ne _ _ (by omega), rs_u2_ne _ _ (by omega), rs_u2_eq]; rfl
                        · rw [← hI1, rs_u2_ne _ _ (by omega), rs_u2_eq]; rfl
                · have hf2 : D.sb.length = 6 := by omega
                  refine BC_same hS (.int (-4)) (Or.inl ⟨_, rfl⟩) (fun d P n s I J R Q h hQ => ?_) (fun d P n s I J R Q h hQ => ?_)
                  · obtain ⟨q, hR, hq⟩ := h.2.1
                    rw [em_X11_substitute]
                    simp (disch := omega) only [g_X11_substitute_0, g_X11_substitute_1, g_X11_substitute_4, g_X11_substitute_7, g_X11_substitute_8, g_X11_substitute_11, g_X11_substitute_14, g_X11_substitute_16, g_X11_substitute_17, g_X11_substitute_18, g_X11_substitute_21, g_X11_substitute_24, g_X11_substitute_25, g_X11_substitute_26, g_X11_substitute_27, g_X11_substitute_28, g_X11_substitute_31, g_X11_substitute_32, g_X11_substitute_33, g_X11_substitute_36, g_X11_substitute_39, g_X11_substitute_42, g_X11_substitute_44, g_X11_substitute_45, g_X11_substitute_48, g_X11_substitute_51, g_X11_substitute_54, g_X11_substitute_56, g_X11_substitute_57, g_X11_substitute_59, g_X11_substitute_62, g_X11_substitute_65, g_X11_substitute_68, g_X11_substitute_70, g_X11_substitute_71, g_X11_substitute_72, g_X11_substitute_75, g_X11_substitute_78, g_X11_substitute_80, g_X11_substitute_82, g_X11_substitute_84, g_X11_substitute_87, g_X11_substitute_89, lk_X11_substitute, XI, Nat.reduceAdd, Nat.reduceEqDiff, not_false_eq_true, nI_T1, nI_T0, true_and, and_true, WC, WV, WU, rs_b_0, rs_b_ok2, true_or, or_true, Classical.not_not, not_true_eq_false, if_true, if_false, reduceCtorEq, s_X11_isIngredient, s_X11_isWithin, s_great _ _ _ hki, c0, c1, c2, c3, c4, c5, nI_eqS, hxy, hR, va_rf, k_St P n s I J R hq, s_scount n s I J R _ _ hq hS.1, nI_ltS, hf]
                    exact hQ
                  · have e408 : I 62 408 = nI 6 := by rw [h.1.2.2.1, hf2]
                    rw [em_X12_substitute]
                    simp (disch := omega) only [g_X12_substitute_0, g_X12_substitute_1, g_X12_substitute_4, g_X12_substitute_7, g_X12_substitute_8, g_X12_substitute_11, g_X12_substitute_14, g_X12_substitute_16, g_X12_substitute_17, g_X12_substitute_18, g_X12_substitute_21, g_X12_substitute_24, g_X12_substitute_25, g_X12_substitute_26, g_X12_substitute_28, g_X12_substitute_29, g_X12_substitute_32, g_X12_substitute_34, g_X12_substitute_37, g_X12_substitute_39, g_X12_substitute_40, g_X12_substitute_43, g_X12_substitute_45, g_X12_substitute_48, lk_X12_substitute, XI, Nat.reduceAdd, Nat.reduceEqDiff, not_false_eq_true, nI_T1, nI_T0, true_and, and_true, WC, WV, WU, rs_b_0, rs_b_ok2, true_or, or_true, Classical.not_not, not_true_eq_false, if_true, if_false, reduceCtorEq, s_X12_isIngredient, s_X12_in, c0, c1, c2, nI_eqS]
                    refine x12_most.mpr ?_
                    simp (disch := omega) only [g_X12_substitute_49, g_X12_substitute_51, g_X12_substitute_52, g_X12_substitute_53, g_X12_substitute_56, g_X12_substitute_57, g_X12_substitute_58, g_X12_substitute_61, g_X12_substitute_64, g_X12_substitute_67, g_X12_substitute_69, g_X12_substitute_70, g_X12_substitute_73, g_X12_substitute_76, g_X12_substitute_79, g_X12_substitute_81, g_X12_substitute_82, g_X12_substitute_84, g_X12_substitute_87, g_X12_substitute_90, g_X12_substitute_92, g_X12_substitute_93, g_X12_substitute_94, g_X12_substitute_97, g_X12_substitute_100, g_X12_substitute_101, g_X12_substitute_103, g_X12_substitute_106, g_X12_substitute_108, lk_X12_substitute, XI, Nat.reduceAdd, Nat.reduceEqDiff, not_false_eq_true, nI_T1, nI_T0, true_and, and_true, WC, WV, WU, rs_b_0, rs_b_ok2, true_or, or_true, Classical.not_not, not_true_eq_false, if_true, if_false, reduceCtorEq, s_X12_in, c3, c4, c5, nI_eqS, hxy, nI_cl, rs_in_t, e408]
                    exact hQ
              · refine BC_same hS (.int (-2)) (Or.inl ⟨_, rfl⟩) (fun d P n s I J R Q h hQ => ?_) (fun d P n s I J R Q h hQ => ?_)
                · rw [em_X11_substitute]
                  simp (disch := omega) only [g_X11_substitute_0, g_X11_substitute_1, g_X11_substitute_4, g_X11_substitute_7, g_X11_substitute_8, g_X11_substitute_11, g_X11_substitute_14, g_X11_substitute_16, g_X11_substitute_17, g_X11_substitute_18, g_X11_substitute_21, g_X11_substitute_24, g_X11_substitute_25, g_X11_substitute_26, g_X11_substitute_27, g_X11_substitute_28, g_X11_substitute_31, g_X11_substitute_32, g_X11_substitute_33, g_X11_substitute_36, g_X11_substitute_39, g_X11_substitute_42, g_X11_substitute_44, g_X11_substitute_45, g_X11_substitute_48, g_X11_substitute_51, g_X11_substitute_54, g_X11_substitute_56, g_X11_substitute_57, g_X11_substitute_59, g_X11_substitute_62, g_X11_substitute_65, g_X11_substitute_68, g_X11_substitute_70, lk_X11_substitute, XI, Nat.reduceAdd, Nat.reduceEqDiff, not_false_eq_true, nI_T1, nI_T0, true_and, and_true, WC, WV, WU, rs_b_0, rs_b_ok2, true_or, or_true, Classical.not_not, not_true_eq_false, if_true, if_false, reduceCtorEq, s_X11_isIngredient, s_X11_isWithin, s_great _ _ _ hki, c0, c1, c2, nI_eqS, hxy, c3, c4, c5]
                  exact hQ
                · rw [em_X12_substitute]
                  simp (disch := omega) only [g_X12_substitute_0, g_X12_substitute_1, g_X12_substitute_4, g_X12_substitute_7, g_X12_substitute_8, g_X12_substitute_11, g_X12_substitute_14, g_X12_substitute_16, g_X12_substitute_17, g_X12_substitute_18, g_X12_substitute_21, g_X12_substitute_24, g_X12_substitute_25, g_X12_substitute_26, g_X12_substitute_28, g_X12_substitute_29, g_X12_substitute_32, g_X12_substitute_34, g_X12_substitute_37, g_X12_substitute_39, g_X12_substitute_40, g_X12_substitute_43, g_X12_substitute_45, g_X12_substitute_48, lk_X12_substitute, XI, Nat.reduceAdd, Nat.reduceEqDiff, not_false_eq_true, nI_T1, nI_T0, true_and, and_true, WC, WV, WU, rs_b_0, rs_b_ok2, true_or, or_true, Classical.not_not, not_true_eq_false, if_true, if_false, reduceCtorEq, s_X12_isIngredient, s_X12_in, c0, c1, c2, nI_eqS]
                  refine x12_most.mpr ?_
                  simp (disch := omega) only [g_X12_substitute_49, g_X12_substitute_51, g_X12_substitute_52, g_X12_substitute_53, g_X12_substitute_56, g_X12_substitute_57, g_X12_substitute_58, g_X12_substitute_61, g_X12_substitute_64, g_X12_substitute_67, g_X12_substitute_69, g_X12_substitute_70, g_X12_substitute_73, g_X12_substitute_76, g_X12_substitute_79, g_X12_substitute_81, g_X12_substitute_82, g_X12_substitute_84, g_X12_substitute_87, g_X12_substitute_90, g_X12_substitute_92, lk_X12_substitute, XI, Nat.reduceAdd, Nat.reduceEqDiff, not_false_eq_true, nI_T1, nI_T0, true_and, and_true, WC, WV, WU, rs_b_0, rs_b_ok2, true_or, or_true, Classical.not_not, not_true_eq_false, if_true, if_false, reduceCtorEq, s_X12_in, nI_eqS, hxy, c3, c4, c5]
                  exact hQ
            · refine BC_same hS (.int (-2)) (Or.inl ⟨_, rfl⟩) (fun d P n s I J R Q h hQ => ?_) (fun d P n s I J R Q h hQ => ?_)
              · rw [em_X11_substitute]
                simp (disch := omega) only [g_X11_substitute_0, g_X11_substitute_1, g_X11_substitute_4, g_X11_substitute_7, g_X11_substitute_8, g_X11_substitute_11, g_X11_substitute_14, g_X11_substitute_16, g_X11_substitute_17, g_X11_substitute_18, g_X11_substitute_21, g_X11_substitute_24, g_X11_substitute_25, g_X11_substitute_26, g_X11_substitute_27, g_X11_substitute_28, g_X11_substitute_31, g_X11_substitute_32, g_X11_substitute_33, g_X11_substitute_36, g_X11_substitute_39, g_X11_substitute_42, g_X11_substitute_44, g_X11_substitute_45, g_X11_substitute_48, g_X11_substitute_51, g_X11_substitute_54, g_X11_substitute_56, g_X11_substitute_57, g_X11_substitute_59, g_X11_substitute_62, g_X11_substitute_65, g_X11_substitute_68, g_X11_substitute_70, lk_X11_substitute, XI, Nat.reduceAdd, Nat.reduceEqDiff, not_false_eq_true, nI_T1, nI_T0, true_and, and_true, WC, WV, WU, rs_b_0, rs_b_ok2, true_or, or_true, Classical.not_not, not_true_eq_false, if_true, if_false, reduceCtorEq, s_X11_isIngredient, s_X11_isWithin, s_great _ _ _ hki, c0, c1, c2, nI_eqS, hxy, c3, c4]
                exact hQ
              · rw [em_X12_substitute]
                simp (disch := omega) only [g_X12_substitute_0, g_X12_substitute_1, g_X12_substitute_4, g_X12_substitute_7, g_X12_substitute_8, g_X12_substitute_11, g_X12_substitute_14, g_X12_substitute_16, g_X12_substitute_17, g_X12_substitute_18, g_X12_substitute_21, g_X12_substitute_24, g_X12_substitute_25, g_X12_substitute_26, g_X12_substitute_28, g_X12_substitute_29, g_X12_substitute_32, g_X12_substitute_34, g_X12_substitute_37, g_X12_substitute_39, g_X12_substitute_40, g_X12_substitute_43, g_X12_substitute_45, g_X12_substitute_48, lk_X12_substitute, XI, Nat.reduceAdd, Nat.reduceEqDiff, not_false_eq_true, nI_T1, nI_T0, true_and, and_true, WC, WV, WU, rs_b_0, rs_b_ok2, true_or, or_true, Classical.not_not, not_true_eq_false, if_true, if_false, reduceCtorEq, s_X12_isIngredient, s_X12_in, c0, c1, c2, nI_eqS]
                refine x12_most.mpr ?_
                simp (disch := omega) only [g_X12_substitute_49, g_X12_substitute_51, g_X12_substitute_52, g_X12_substitute_53, g_X12_substitute_56, g_X12_substitute_57, g_X12_substitute_58, g_X12_substitute_61, g_X12_substitute_64, g_X12_substitute_67, g_X12_substitute_69, g_X12_substitute_70, g_X12_substitute_73, g_X12_substitute_76, g_X12_substitute_79, g_X12_substitute_81, g_X12_substitute_82, g_X12_substitute_84, g_X12_substitute_87, g_X12_substitute_90, g_X12_substitute_92, lk_X12_substitute, XI, Nat.reduceAdd, Nat.reduceEqDiff, not_false_eq_true, nI_T1, nI_T0, true_and, and_true, WC, WV, WU, rs_b_0, rs_b_ok2, true_or, or_true, Classical.not_not, not_true_eq_false, if_true, if_false, reduceCtorEq, s_X12_in, nI_eqS, hxy, c3, c4]
                exact hQ
          · refine BC_same hS (.int (-2)) (Or.inl ⟨_, rfl⟩) (fun d P n s I J R Q h hQ => ?_) (fun d P n s I J R Q h hQ => ?_)
            · rw [em_X11_substitute]
              simp (disch := omega) only [g_X11_substitute_0, g_X11_substitute_1, g_X11_substitute_4, g_X11_substitute_7, g_X11_substitute_8, g_X11_substitute_11, g_X11_substitute_14, g_X11_substitute_16, g_X11_substitute_17, g_X11_substitute_18, g_X11_substitute_21, g_X11_substitute_24, g_X11_substitute_25, g_X11_substitute_26, g_X11_substitute_27, g_X11_substitute_28, g_X11_substitute_31, g_X11_substitute_32, g_X11_substitute_33, g_X11_substitute_36, g_X11_substitute_39, g_X11_substitute_42, g_X11_substitute_44, g_X11_substitute_45, g_X11_substitute_48, g_X11_substitute_51, g_X11_substitute_54, g_X11_substitute_56, g_X11_substitute_57, g_X11_substitute_59, g_X11_substitute_62, g_X11_substitute_65, g_X11_substitute_68, g_X11_substitute_70, lk_X11_substitute, XI, Nat.reduceAdd, Nat.reduceEqDiff, not_false_eq_true, nI_T1, nI_T0, true_and, and_true, WC, WV, WU, rs_b_0, rs_b_ok2, true_or, or_true, Classical.not_not, not_true_eq_false, if_true, if_false, reduceCtorEq, s_X11_isIngredient, s_X11_isWithin, s_great _ _ _ hki, c0, c1, c2, nI_eqS, hxy, c3]
              exact hQ
            · rw [em_X12_substitute]
              simp (disch := omega) only [g_X12_substitute_0, g_X12_substitute_1, g_X12_substitute_4, g_X12_substitute_7, g_X12_substitute_8, g_X12_substitute_11, g_X12_substitute_14, g_X12_substitute_16, g_X12_substitute_17, g_X12_substitute_18, g_X12_substitute_21, g_X12_substitute_24, g_X12_substitute_25, g_X12_substitute_26, g_X12_substitute_28, g_X12_substitute_29, g_X12_substitute_32, g_X12_substitute_34, g_X12_substitute_37, g_X12_substitute_39, g_X12_substitute_40, g_X12_substitute_43, g_X12_substitute_45, g_X12_substitute_48, lk_X12_substitute, XI, Nat.reduceAdd, Nat.reduceEqDiff, not_false_eq_true, nI_T1, nI_T0, true_and, and_true, WC, WV, WU, rs_b_0, rs_b_ok2, true_or, or_true, Classical.not_not, not_true_eq_false, if_true, if_false, reduceCtorEq, s_X12_isIngredient, s_X12_in, c0, c1, c2, nI_eqS]
              refine x12_most.mpr ?_
              simp (disch := omega) only [g_X12_substitute_49, g_X12_substitute_51, g_X12_substitute_52, g_X12_substitute_53, g_X12_substitute_56, g_X12_substitute_57, g_X12_substitute_58, g_X12_substitute_61, g_X12_substitute_64, g_X12_substitute_67, g_X12_substitute_69, g_X12_substitute_70, g_X12_substitute_73, g_X12_substitute_76, g_X12_substitute_79, g_X12_substitute_81, g_X12_substitute_82, g_X12_substitute_84, g_X12_substitute_87, g_X12_substitute_90, g_X12_substitute_92, lk_X12_substitute, XI, Nat.reduceAdd, Nat.reduceEqDiff, not_false_eq_true, nI_T1, nI_T0, true_and, and_true, WC, WV, WU, rs_b_0, rs_b_ok2, true_or, or_true, Classical.not_not, not_true_eq_false, if_true, if_false, reduceCtorEq, s_X12_in, nI_eqS, hxy, c3]
              exact hQ
      · refine BC_same hS (.int (-1)) (Or.inl ⟨_, rfl⟩) (fun d P n s I J R Q h hQ => ?_) (fun d P n s I J R Q h hQ => ?_)
        · rw [em_X11_substitute]
          simp (disch := omega) only [g_X11_substitute_0, g_X11_substitute_1, g_X11_substitute_4, g_X11_substitute_7, g_X11_substitute_8, g_X11_substitute_11, g_X11_substitute_14, g_X11_substitute_16, g_X11_substitute_17, g_X11_substitute_18, g_X11_substitute_21, g_X11_substitute_24, g_X11_substitute_25, lk_X11_substitute, XI, Nat.reduceAdd, Nat.reduceEqDiff, not_false_eq_true, nI_T1, nI_T0, true_and, and_true, WC, WV, WU, rs_b_0, rs_b_ok2, true_or, or_true, Classical.not_not, not_true_eq_false, if_true, if_false, reduceCtorEq, s_X11_isIngredient, s_X11_isWithin, c0, c1, c2]
          exact hQ
        · rw [em_X12_substitute]
          simp (disch := omega) only [g_X12_substitute_0, g_X12_substitute_1, g_X12_substitute_4, g_X12_substitute_7, g_X12_substitute_8, g_X12_substitute_11, g_X12_substitute_14, g_X12_substitute_16, g_X12_substitute_17, g_X12_substitute_18, g_X12_substitute_21, g_X12_substitute_24, g_X12_substitute_25, lk_X12_substitute, XI, Nat.reduceAdd, Nat.reduceEqDiff, not_false_eq_true, nI_T1, nI_T0, true_and, and_true, WC, WV, WU, rs_b_0, rs_b_ok2, true_or, or_true, Classical.not_not, not_true_eq_false, if_true, if_false, reduceCtorEq, s_X12_isIngredient, s_X12_in, c0, c1, c2]
          exact hQ
    · refine BC_same hS (.int (-1)) (Or.inl ⟨_, rfl⟩) (fun d P n s I J R Q h hQ => ?_) (fun d P n s I J R Q h hQ => ?_)
      · rw [em_X11_substitute]
        simp (disch := omega) only [g_X11_substitute_0, g_X11_substitute_1, g_X11_substitute_4, g_X11_substitute_7, g_X11_substitute_8, g_X11_substitute_11, g_X11_substitute_14, g_X11_substitute_16, g_X11_substitute_17, g_X11_substitute_18, g_X11_substitute_21, g_X11_substitute_24, g_X11_substitute_25, lk_X11_substitute, XI, Nat.reduceAdd, Nat.reduceEqDiff, not_false_eq_true, nI_T1, nI_T0, true_and, and_true, WC, WV, WU, rs_b_0, rs_b_ok2, true_or, or_true, Classical.not_not, not_true_eq_false, if_true, if_false, reduceCtorEq, s_X11_isIngredient, s_X11_isWithin, c0, c1]
        exact hQ
      · rw [em_X12_substitute]
        simp (disch := omega) only [g_X12_substitute_0, g_X12_substitute_1, g_X12_substitute_4, g_X12_substitute_7, g_X12_substitute_8, g_X12_substitute_11, g_X12_substitute_14, g_X12_substitute_16, g_X12_substitute_17, g_X12_substitute_18, g_X12_substitute_21, g_X12_substitute_24, g_X12_substitute_25, lk_X12_substitute, XI, Nat.reduceAdd, Nat.reduceEqDiff, not_false_eq_true, nI_T1, nI_T0, true_and, and_true, WC, WV, WU, rs_b_0, rs_b_ok2, true_or, or_true, Classical.not_not, not_true_eq_false, if_true, if_false, reduceCtorEq, s_X12_isIngredient, s_X12_in, c0, c1]
        exact hQ
  · refine BC_same hS (.int (-1)) (Or.inl ⟨_, rfl⟩) (fun d P n s I J R Q h hQ => ?_) (fun d P n s I J R Q h hQ => ?_)
    · rw [em_X11_substitute]
      simp (disch := omega) only [g_X11_substitute_0, g_X11_substitute_1, g_X11_substitute_4, g_X11_substitute_7, g_X11_substitute_8, g_X11_substitute_11, g_X11_substitute_14, g_X11_substitute_16, g_X11_substitute_17, g_X11_substitute_18, g_X11_substitute_21, g_X11_substitute_24, g_X11_substitute_25, lk_X11_substitute, XI, Nat.reduceAdd, Nat.reduceEqDiff, not_false_eq_true, nI_T1, nI_T0, true_and, and_true, WC, WV, WU, rs_b_0, rs_b_ok2, true_or, or_true, Classical.not_not, not_true_eq_false, if_true, if_false, reduceCtorEq, s_X11_isIngredient, s_X11_isWithin, c0]
      exact hQ
    · rw [em_X12_substitute]
      simp (disch := omega) only [g_X12_substitute_0, g_X12_substitute_1, g_X12_substitute_4, g_X12_substitute_7, g_X12_substitute_8, g_X12_substitute_11, g_X12_substitute_14, g_X12_substitute_16, g_X12_substitute_17, g_X12_substitute_18, g_X12_substitute_21, g_X12_substitute_24, g_X12_substitute_25, lk_X12_substitute, XI, Nat.reduceAdd, Nat.reduceEqDiff, not_false_eq_true, nI_T1, nI_T0, true_and, and_true, WC, WV, WU, rs_b_0, rs_b_ok2, true_or, or_true, Classical.not_not, not_true_eq_false, if_true, if_false, reduceCtorEq, s_X12_isIngredient, s_X12_in, c0]
      exact hQ
end
