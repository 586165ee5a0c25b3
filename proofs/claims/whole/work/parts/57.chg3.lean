/-! grams of a unit: the reference; both -/
theorem max0_m1 : (if nI 0 < (-1 : Int32) then (-1 : Int32) else nI 0) = nI 0 := by decide
theorem max0_n {a : Nat} (h : a < 2147483648) : (if nI 0 < nI a then nI a else nI 0) = nI a := by
  by_cases e : 0 < a
  · rw [if_pos ((nI_ltS (by decide) h).mpr e)]
  · rw [if_neg (fun z => e ((nI_ltS (by decide) h).mp z)), show a = 0 by omega]
section
variable {D : Dt} {Ds : Option Dt} {L : List Dt} {tp : List Nat} {rea : Int32}
theorem r_density (hS : SOk D Ds L tp) {i : Nat} (hi : i < 12) {x1 : Int32} {b : Nat} (c1 : -1 ≤ x1 ∧ x1 ≤ nI 9999) (c2 : nI 1 ≤ nI b ∧ nI b ≤ nI 9999) (o : Option (Nat × Nat)) (ho : o = grC x1 b) (h12 : 1 ≤ b ∧ b ≤ 9999) : RC yX12_density [.int (nI i), .int x1, .int (nI b)] D Ds L tp rea (D.setI i ((D.ig i).setDe o)) Ds (nxL L D) tp rea (.int (rs_b (¬ (D.ig i).gr 1 = none))) := by
  intro d P n s I J R Q g8 h hQ
  have hg := hS.1.2.1 i hi
  have hgo := Ig.gr_ok hg 1
  obtain ⟨m1, m2, m3, m4, m5, m6, m7⟩ := h.1.2.1 i hi
  have hL := hS.2.2.1
  have k62 : ∀ j, kpI I L.length 62 j = I 62 j := fun j => kpI_ne I _ (by omega) (by decide)
  have k8 : kpI I L.length 61 8 = I 61 8 := kpI_ne I _ (by omega) (by decide)
  have c0 : nI 0 ≤ nI i ∧ nI i ≤ nI 11 := (nI_within (by decide) (by decide)).mpr ⟨i, Nat.zero_le i, by omega, rfl⟩
  obtain ⟨g, hg1, hg8⟩ : ∃ g, g ≤ 1 ∧ I 61 8 = nI g := by
    rcases g8 with e | e
    · exact ⟨0, Nat.zero_le 1, e⟩
    · exact ⟨1, Nat.le_refl 1, e⟩
  have hw : (if I 62 (240 + 14 * i + 0 + 1) ≤ 0 then nI 0 else nI 1) = rs_b (¬ (D.ig i).gr 1 = none) := by
    have e1 : (D.ig i).gr 1 = (D.ig i).de := rfl
    cases hgr : (D.ig i).gr 1 with
    | none =>
      rw [rs_b_f (fun z => z rfl)]
      rw [← e1, hgr] at m1
      have e2 : I 62 (240 + 14 * i + 0 + 1) = nI 0 := m1.2
      rw [e2, if_pos (by decide)]
    | some p =>
      rw [rs_b_t (fun z => by cases z)]
      rw [← e1, hgr] at m1
      rw [hgr] at hgo
      have hp := hgo p rfl
      have hp1 := hp.2.1
      have hp2 := hp.2.2.1
      have e2 : I 62 (240 + 14 * i + 0 + 1) = nI p.2 := m1.2
      rw [e2, if_neg (by rw [nI_le0S (by omega)]; omega)]
  have fin : ∀ (I' : Nat → Nat → Int32) (J' : Nat → Nat → Int64) (u v : Nat), (o = none → u = 0 ∧ v = 0) → (∀ q, o = some q → u = q.1 ∧ v = q.2) → (∀ q j, ¬ (q = 61 ∧ j = 8) → I' q j = kpI I L.length q j) → fR J J' → Q (sk_w P n s (rs_u2 (rs_u2 I' 62 (240 + 14 * i + 0) (nI u)) 62 (240 + 14 * i + 0 + 1) (nI v)) J' R) (some (.int (rs_b (¬ (D.ig i).gr 1 = none)))) := by
    intro I' J' u v u1 u2 hI' hJ'
    have hl := hg.2.2.2.2.2.1
    have e : ∀ j, ¬ j = 240 + 14 * i + 0 → ¬ j = 240 + 14 * i + 0 + 1 → rs_u2 (rs_u2 I' 62 (240 + 14 * i + 0) (nI u)) 62 (240 + 14 * i + 0 + 1) (nI v) 62 j = I 62 j := fun j h1 h2 => by rw [rs_u2_ne _ _ (by omega), rs_u2_ne _ _ (by omega), hI' 62 j (by omega)]; exact k62 j
    have e2 : mFr (rs_u2 (rs_u2 I' 62 (240 + 14 * i + 0) (nI u)) 62 (240 + 14 * i + 0 + 1) (nI v) 62) (240 + 14 * i + 0) o := by
      cases o with
      | none =>
        obtain ⟨rfl, rfl⟩ := u1 rfl
        exact ⟨by rw [rs_u2_ne _ _ (by omega), rs_u2_eq], by rw [rs_u2_eq]⟩
      | some q =>
        obtain ⟨rfl, rfl⟩ := u2 q rfl
        exact ⟨by rw [rs_u2_ne _ _ (by omega), rs_u2_eq], by rw [rs_u2_eq]⟩
    have e3 := mFr_c (fun j h1 h2 => e j (by omega) (by omega)) m2
    refine hQ _ J' (RI_keep hS h (mDt_I hS.1 hi (fun j hj => e j (by omega) (by omega)) ⟨?_, ?_, ?_, ?_, ?_, ?_, ?_⟩ h.1) (fun q j h1 h2 => by rw [rs_u2_ne _ _ (by omega), rs_u2_ne _ _ (by omega)]; exact hI' q j h2)) (fR_u (fR_u (fun q j hq => by rw [hI' q j (by omega)]; exact kpI_R I _ q j hq) (by decide)) (by decide)) hJ'
    · first | exact e2 | exact e3
    · first | exact e2 | exact e3
    · rw [e _ (by omega) (by omega)]; exact m3
    · rw [e _ (by omega) (by omega)]; exact m4
    · rw [e _ (by omega) (by omega)]; exact m5
    · rw [e _ (by omega) (by omega)]; exact m6
    · intro k p hk
      have hk3 : k < (D.ig i).pk.length := (List.getElem?_eq_some_iff.mp hk).1
      rw [e _ (by omega) (by omega), e _ (by omega) (by omega)]
      exact m7 k p hk
  rw [em_X12_density]
  simp (disch := omega) only [g_X12_density_0, g_X12_density_1, g_X12_density_2, g_X12_density_3, g_X12_density_4, g_X12_density_5, lk_X12_density, XI, Nat.reduceAdd, Nat.reduceEqDiff, not_false_eq_true, nI_T1, nI_T0, true_and, and_true, WC, WV, WU]
  rw [em_X12_setsFraction]
  have go : ∀ (a : Nat), a ≤ 9999 → (if nI 0 < x1 then x1 else nI 0) = nI a → (∀ q, fr a b = some q → rs_X (d + 58 + 1) yX12_setsFraction 79 [some (.ref 61), some (.int (nI i)), some (.int (nI 0)), some (.int x1), some (.int (nI b)), some (.int (nI (240 + 14 * i + 0))), some (.int (rs_b (¬ (D.ig i).gr 1 = none)))] [] (sk_w P n s (rs_u2 (kpI I L.length) 61 8 (nI g)) (rs_u2 (rs_u2 J 61 6 (lN q.1)) 61 7 (lN q.2)) R) (fun w' v => rs_X (d + 60) yX12_density 8 [some (.ref 61), some (.int (nI i)), some (.int x1), some (.int (nI b))] (rs_push v []) w' Q)) → rs_X (d + 58 + 1) yX12_setsFraction 0 [some (.ref 61), some (.int (nI i)), some (.int (nI 0)), some (.int x1), some (.int (nI b)), none, none] [] (sk_w P n s I J R) (fun w' v => rs_X (d + 60) yX12_density 8 [some (.ref 61), some (.int (nI i)), some (.int x1), some (.int (nI b))] (rs_push v []) w' Q) := by
    intro a ha ex hq
    obtain ⟨q, e1, e2, e3⟩ := fr_small ha h12.1 h12.2
    have hq2 := hq q e1
    rw [e2] at hq2
    have eg : grt g a b = g := by unfold grt; rw [e1, if_neg (by intro z; cases z)]
    rw [← hw] at hq2
    simp (disch := omega) only [g_X12_setsFraction_0, g_X12_setsFraction_1, g_X12_setsFraction_4, g_X12_setsFraction_7, g_X12_setsFraction_8, g_X12_setsFraction_9, g_X12_setsFraction_10, g_X12_setsFraction_11, g_X12_setsFraction_14, g_X12_setsFraction_17, g_X12_setsFraction_20, g_X12_setsFraction_22, g_X12_setsFraction_23, g_X12_setsFraction_26, g_X12_setsFraction_29, g_X12_setsFraction_32, g_X12_setsFraction_34, g_X12_setsFraction_35, g_X12_setsFraction_36, g_X12_setsFraction_39, g_X12_setsFraction_40, g_X12_setsFraction_43, g_X12_setsFraction_44, g_X12_setsFraction_45, g_X12_setsFraction_47, g_X12_setsFraction_48, g_X12_setsFraction_51, g_X12_setsFraction_53, g_X12_setsFraction_54, g_X12_setsFraction_55, g_X12_setsFraction_56, g_X12_setsFraction_59, g_X12_setsFraction_60, g_X12_setsFraction_63, g_X12_setsFraction_64, g_X12_setsFraction_66, g_X12_setsFraction_67, g_X12_setsFraction_68, g_X12_setsFraction_69, g_X12_setsFraction_72, g_X12_setsFraction_73, g_X12_setsFraction_75, g_X12_setsFraction_76, lk_X12_setsFraction, XI, Nat.reduceAdd, Nat.reduceEqDiff, not_false_eq_true, nI_T1, nI_T0, true_and, and_true, WC, WV, WU, rs_b_0, rs_b_ok2, true_or, or_true, Classical.not_not, not_true_eq_false, if_true, if_false, reduceCtorEq, s_X12_isIngredient, s_X12_in, c0, c1, c2, s_X12_keep _ P n s I J R _ hL h.2.2.1, s_X12_at, nI_addS, Nat.add_zero, nI_cl, rs_in_t, k62, ex, nI_long (show a ≤ 1000000000 by omega), nI_long (show b ≤ 1000000000 by omega), s_X12_reduce _ P n s _ J R _ hg1 (k8.trans hg8) (show a < 2 ^ 63 by omega) h12.1 (show b ≤ 1000000000000000000 by omega), eg]
    by_cases hc : I 62 (240 + 14 * i + 0 + 1) ≤ 0
    · rw [if_pos hc] at hq2
      try simp only [Nat.add_zero] at hc hq2
      rw [if_pos hc]
      exact hq2
    · rw [if_neg hc] at hq2
      try simp only [Nat.add_zero] at hc hq2
      rw [if_neg hc]
      exact hq2
  rcases nI_from (by decide) c1 with e | ⟨a, ha, e⟩
  · subst e
    have e2 : o = none := by rw [ho]; rfl
    refine go 0 (by decide) max0_m1 ?_
    intro q e1
    have hf := fin (rs_u2 (kpI I L.length) 61 8 (nI g)) (rs_u2 (rs_u2 J 61 6 (lN q.1)) 61 7 (lN q.2)) 0 0 (fun _ => ⟨rfl, rfl⟩) (fun q z => by rw [e2] at z; cases z) (fun q j z => rs_u2_ne _ _ z) (fR_u (fR_u (fR_r J) (by decide)) (by decide))
    simp (disch := omega) only [g_X12_setsFraction_79, g_X12_setsFraction_80, g_X12_setsFraction_83, g_X12_setsFraction_85, g_X12_setsFraction_86, g_X12_setsFraction_89, g_X12_setsFraction_90, g_X12_setsFraction_93, g_X12_setsFraction_94, g_X12_setsFraction_97, g_X12_setsFraction_98, g_X12_setsFraction_99, g_X12_setsFraction_100, g_X12_setsFraction_103, g_X12_setsFraction_105, g_X12_setsFraction_106, g_X12_setsFraction_107, g_X12_setsFraction_108, g_X12_setsFraction_111, g_X12_setsFraction_112, g_X12_setsFraction_115, g_X12_setsFraction_116, g_X12_setsFraction_119, g_X12_setsFraction_120, g_X12_setsFraction_121, g_X12_setsFraction_123, lk_X12_setsFraction, XI, Nat.reduceAdd, Nat.reduceEqDiff, not_false_eq_true, nI_T1, nI_T0, true_and, and_true, WC, WV, WU, rs_b_0, rs_b_ok2, true_or, or_true, Classical.not_not, not_true_eq_false, if_true, if_false, reduceCtorEq, show ((0 : Int32) ≤ -1) ↔ False from ⟨fun z => absurd z (by decide), fun z => z.elim⟩, nI_addS, nI_cl, rs_in_t, Nat.add_zero]
    try simp only [Nat.add_zero] at hf
    simp (disch := omega) only [K_X12_density, lk_X12_density, XI, Nat.reduceAdd, Nat.reduceEqDiff, not_false_eq_true, nI_T1, nI_T0, true_and, and_true]
    exact hf
  · subst e
    have e2 : o = fr a b := by
      rw [ho]
      unfold grC
      rw [if_neg (by rw [nI_lt0S (by omega)]; exact id), nI_cl (by omega)]
    refine go a ha (max0_n (by omega)) ?_
    intro q e1
    rw [e1] at e2
    have hqF : isF q := fr_isF h12.1 e1
    have hq1 := hqF.1
    have hq2 := hqF.2.2.1
    have hf := fin (rs_u2 (kpI I L.length) 61 8 (nI g)) (rs_u2 (rs_u2 J 61 6 (lN q.1)) 61 7 (lN q.2)) q.1 q.2 (fun z => by rw [e2] at z; cases z) (fun r z => by rw [e2] at z; cases z; exact ⟨rfl, rfl⟩) (fun q j z => rs_u2_ne _ _ z) (fR_u (fR_u (fR_r J) (by decide)) (by decide))
    simp (disch := omega) only [g_X12_setsFraction_79, g_X12_setsFraction_80, g_X12_setsFraction_83, g_X12_setsFraction_85, g_X12_setsFraction_86, g_X12_setsFraction_89, g_X12_setsFraction_90, g_X12_setsFraction_93, g_X12_setsFraction_94, g_X12_setsFraction_97, g_X12_setsFraction_98, g_X12_setsFraction_99, g_X12_setsFraction_100, g_X12_setsFraction_103, g_X12_setsFraction_105, g_X12_setsFraction_106, g_X12_setsFraction_107, g_X12_setsFraction_108, g_X12_setsFraction_111, g_X12_setsFraction_112, g_X12_setsFraction_115, g_X12_setsFraction_116, g_X12_setsFraction_119, g_X12_setsFraction_120, g_X12_setsFraction_121, g_X12_setsFraction_123, lk_X12_setsFraction, XI, Nat.reduceAdd, Nat.reduceEqDiff, not_false_eq_true, nI_T1, nI_T0, true_and, and_true, WC, WV, WU, rs_b_0, rs_b_ok2, true_or, or_true, Classical.not_not, not_true_eq_false, if_true, if_false, reduceCtorEq, nI_ge0S, nI_addS, nI_cl, rs_in_t, rs_u2_eq, rs_u2_ne, lN_i, Nat.add_zero]
    try simp only [Nat.add_zero] at hf
    simp (disch := omega) only [K_X12_density, lk_X12_density, XI, Nat.reduceAdd, Nat.reduceEqDiff, not_false_eq_true, nI_T1, nI_T0, true_and, and_true]
    exact hf
theorem r_weight (hS : SOk D Ds L tp) {i : Nat} (hi : i < 12) {x1 : Int32} {b : Nat} (c1 : -1 ≤ x1 ∧ x1 ≤ nI 9999) (c2 : nI 1 ≤ nI b ∧ nI b ≤ nI 9999) (o : Option (Nat × Nat)) (ho : o = grC x1 b) (h12 : 1 ≤ b ∧ b ≤ 9999) : RC yX12_weight [.int (nI i), .int x1, .int (nI b)] D Ds L tp rea (D.setI i ((D.ig i).setWe o)) Ds (nxL L D) tp rea (.int (rs_b (¬ (D.ig i).gr 2 = none))) := by
  intro d P n s I J R Q g8 h hQ
  have hg := hS.1.2.1 i hi
  have hgo := Ig.gr_ok hg 2
  obtain ⟨m1, m2, m3, m4, m5, m6, m7⟩ := h.1.2.1 i hi
  have hL := hS.2.2.1
  have k62 : ∀ j, kpI I L.length 62 j = I 62 j := fun j => kpI_ne I _ (by omega) (by decide)
  have k8 : kpI I L.length 61 8 = I 61 8 := kpI_ne I _ (by omega) (by decide)
  have c0 : nI 0 ≤ nI i ∧ nI i ≤ nI 11 := (nI_within (by decide) (by decide)).mpr ⟨i, Nat.zero_le i, by omega, rfl⟩
  obtain ⟨g, hg1, hg8⟩ : ∃ g, g ≤ 1 ∧ I 61 8 = nI g := by
    rcases g8 with e | e
    · exact ⟨0, Nat.zero_le 1, e⟩
    · exact ⟨1, Nat.le_refl 1, e⟩
  have hw : (if I 62 (240 + 14 * i + 2 + 1) ≤ 0 then nI 0 else nI 1) = rs_b (¬ (D.ig i).gr 2 = none) := by
    have e1 : (D.ig i).gr 2 = (D.ig i).we := rfl
    cases hgr : (D.ig i).gr 2 with
    | none =>
      rw [rs_b_f (fun z => z rfl)]
      rw [← e1, hgr] at m2
      have e2 : I 62 (240 + 14 * i + 2 + 1) = nI 0 := m2.2
      rw [e2, if_pos (by decide)]
    | some p =>
      rw [rs_b_t (fun z => by cases z)]
      rw [← e1, hgr] at m2
      rw [hgr] at hgo
      have hp := hgo p rfl
      have hp1 := hp.2.1
      have hp2 := hp.2.2.1
      have e2 : I 62 (240 + 14 * i + 2 + 1) = nI p.2 := m2.2
      rw [e2, if_neg (by rw [nI_le0S (by omega)]; omega)]
  have fin : ∀ (I' : Nat → Nat → Int32) (J' : Nat → Nat → Int64) (u v : Nat), (o = none → u = 0 ∧ v = 0) → (∀ q, o = some q → u = q.1 ∧ v = q.2) → (∀ q j, ¬ (q = 61 ∧ j = 8) → I' q j = kpI I L.length q j) → fR J J' → Q (sk_w P n s (rs_u2 (rs_u2 I' 62 (240 + 14 * i + 2) (nI u)) 62 (240 + 14 * i + 2 + 1) (nI v)) J' R) (some (.int (rs_b (¬ (D.ig i).gr 2 = none)))) := by
    intro I' J' u v u1 u2 hI' hJ'
    have hl := hg.2.2.2.2.2.1
    have e : ∀ j, ¬ j = 240 + 14 * i + 2 → ¬ j = 240 + 14 * i + 2 + 1 → rs_u2 (rs_u2 I' 62 (240 + 14 * i + 2) (nI u)) 62 (240 + 14 * i + 2 + 1) (nI v) 62 j = I 62 j := fun j h1 h2 => by rw [rs_u2_ne _ _ (by omega), rs_u2_ne _ _ (by omega), hI' 62 j (by omega)]; exact k62 j
    have e2 : mFr (rs_u2 (rs_u2 I' 62 (240 + 14 * i + 2) (nI u)) 62 (240 + 14 * i + 2 + 1) (nI v) 62) (240 + 14 * i + 2) o := by
      cases o with
      | none =>
        obtain ⟨rfl, rfl⟩ := u1 rfl
        exact ⟨by rw [rs_u2_ne _ _ (by omega), rs_u2_eq], by rw [rs_u2_eq]⟩
      | some q =>
        obtain ⟨rfl, rfl⟩ := u2 q rfl
        exact ⟨by rw [rs_u2_ne _ _ (by omega), rs_u2_eq], by rw [rs_u2_eq]⟩
    have e3 := mFr_c (fun j h1 h2 => e j (by omega) (by omega)) m1
    refine hQ _ J' (RI_keep hS h (mDt_I hS.1 hi (fun j hj => e j (by omega) (by omega)) ⟨?_, ?_, ?_, ?_, ?_, ?_, ?_⟩ h.1) (fun q j h1 h2 => by rw [rs_u2_ne _ _ (by omega), rs_u2_ne _ _ (by omega)]; exact hI' q j h2)) (fR_u (fR_u (fun q j hq => by rw [hI' q j (by omega)]; exact kpI_R I _ q j hq) (by decide)) (by decide)) hJ'
    · first | exact e2 | exact e3
    · first | exact e2 | exact e3
    · rw [e _ (by omega) (by omega)]; exact m3
    · rw [e _ (by omega) (by omega)]; exact m4
    · rw [e _ (by omega) (by omega)]; exact m5
    · rw [e _ (by omega) (by omega)]; exact m6
    · intro k p hk
      have hk3 : k < (D.ig i).pk.length := (List.getElem?_eq_some_iff.mp hk).1
      rw [e _ (by omega) (by omega), e _ (by omega) (by omega)]
      exact m7 k p hk
  rw [em_X12_weight]
  simp (disch := omega) only [g_X12_weight_0, g_X12_weight_1, g_X12_weight_2, g_X12_weight_3, g_X12_weight_4, g_X12_weight_5, lk_X12_weight, XI, Nat.reduceAdd, Nat.reduceEqDiff, not_false_eq_true, nI_T1, nI_T0, true_and, and_true, WC, WV, WU]
  rw [em_X12_setsFraction]
  have go : ∀ (a : Nat), a ≤ 9999 → (if nI 0 < x1 then x1 else nI 0) = nI a → (∀ q, fr a b = some q → rs_X (d + 58 + 1) yX12_setsFraction 79 [some (.ref 61), some (.int (nI i)), some (.int (nI 2)), some (.int x1), some (.int (nI b)), some (.int (nI (240 + 14 * i + 2))), some (.int (rs_b (¬ (D.ig i).gr 2 = none)))] [] (sk_w P n s (rs_u2 (kpI I L.length) 61 8 (nI g)) (rs_u2 (rs_u2 J 61 6 (lN q.1)) 61 7 (lN q.2)) R) (fun w' v => rs_X (d + 60) yX12_weight 8 [some (.ref 61), some (.int (nI i)), some (.int x1), some (.int (nI b))] (rs_push v []) w' Q)) → rs_X (d + 58 + 1) yX12_setsFraction 0 [some (.ref 61), some (.int (nI i)), some (.int (nI 2)), some (.int x1), some (.int (nI b)), none, none] [] (sk_w P n s I J R) (fun w' v => rs_X (d + 60) yX12_weight 8 [some (.ref 61), some (.int (nI i)), some (.int x1), some (.int (nI b))] (rs_push v []) w' Q) := by
    intro a ha ex hq
    obtain ⟨q, e1, e2, e3⟩ := fr_small ha h12.1 h12.2
    have hq2 := hq q e1
    rw [e2] at hq2
    have eg : grt g a b = g := by unfold grt; rw [e1, if_neg (by intro z; cases z)]
    rw [← hw] at hq2
    simp (disch := omega) only [g_X12_setsFraction_0, g_X12_setsFraction_1, g_X12_setsFraction_4, g_X12_setsFraction_7, g_X12_setsFraction_8, g_X12_setsFraction_9, g_X12_setsFraction_10, g_X12_setsFraction_11, g_X12_setsFraction_14, g_X12_setsFraction_17, g_X12_setsFraction_20, g_X12_setsFraction_22, g_X12_setsFraction_23, g_X12_setsFraction_26, g_X12_setsFraction_29, g_X12_setsFraction_32, g_X12_setsFraction_34, g_X12_setsFraction_35, g_X12_setsFraction_36, g_X12_setsFraction_39, g_X12_setsFraction_40, g_X12_setsFraction_43, g_X12_setsFraction_44, g_X12_setsFraction_45, g_X12_setsFraction_47, g_X12_setsFraction_48, g_X12_setsFraction_51, g_X12_setsFraction_53, g_X12_setsFraction_54, g_X12_setsFraction_55, g_X12_setsFraction_56, g_X12_setsFraction_59, g_X12_setsFraction_60, g_X12_setsFraction_63, g_X12_setsFraction_64, g_X12_setsFraction_66, g_X12_setsFraction_67, g_X12_setsFraction_68, g_X12_setsFraction_69, g_X12_setsFraction_72, g_X12_setsFraction_73, g_X12_setsFraction_75, g_X12_setsFraction_76, lk_X12_setsFraction, XI, Nat.reduceAdd, Nat.reduceEqDiff, not_false_eq_true, nI_T1, nI_T0, true_and, and_true, WC, WV, WU, rs_b_0, rs_b_ok2, true_or, or_true, Classical.not_not, not_true_eq_false, if_true, if_false, reduceCtorEq, s_X12_isIngredient, s_X12_in, c0, c1, c2, s_X12_keep _ P n s I J R _ hL h.2.2.1, s_X12_at, nI_addS, Nat.add_zero, nI_cl, rs_in_t, k62, ex, nI_long (show a ≤ 1000000000 by omega), nI_long (show b ≤ 1000000000 by omega), s_X12_reduce _ P n s _ J R _ hg1 (k8.trans hg8) (show a < 2 ^ 63 by omega) h12.1 (show b ≤ 1000000000000000000 by omega), eg]
    by_cases hc : I 62 (240 + 14 * i + 2 + 1) ≤ 0
    · rw [if_pos hc] at hq2
      try simp only [Nat.add_zero] at hc hq2
      rw [if_pos hc]
      exact hq2
    · rw [if_neg hc] at hq2
      try simp only [Nat.add_zero] at hc hq2
      rw [if_neg hc]
      exact hq2
  rcases nI_from (by decide) c1 with e | ⟨a, ha, e⟩
  · subst e
    have e2 : o = none := by rw [ho]; rfl
    refine go 0 (by decide) max0_m1 ?_
    intro q e1
    have hf := fin (rs_u2 (kpI I L.length) 61 8 (nI g)) (rs_u2 (rs_u2 J 61 6 (lN q.1)) 61 7 (lN q.2)) 0 0 (fun _ => ⟨rfl, rfl⟩) (fun q z => by rw [e2] at z; cases z) (fun q j z => rs_u2_ne _ _ z) (fR_u (fR_u (fR_r J) (by decide)) (by decide))
    simp (disch := omega) only [g_X12_setsFraction_79, g_X12_setsFraction_80, g_X12_setsFraction_83, g_X12_setsFraction_85, g_X12_setsFraction_86, g_X12_setsFraction_89, g_X12_setsFraction_90, g_X12_setsFraction_93, g_X12_setsFraction_94, g_X12_setsFraction_97, g_X12_setsFraction_98, g_X12_setsFraction_99, g_X12_setsFraction_100, g_X12_setsFraction_103, g_X12_setsFraction_105, g_X12_setsFraction_106, g_X12_setsFraction_107, g_X12_setsFraction_108, g_X12_setsFraction_111, g_X12_setsFraction_112, g_X12_setsFraction_115, g_X12_setsFraction_116, g_X12_setsFraction_119, g_X12_setsFraction_120, g_X12_setsFraction_121, g_X12_setsFraction_123, lk_X12_setsFraction, XI, Nat.reduceAdd, Nat.reduceEqDiff, not_false_eq_true, nI_T1, nI_T0, true_and, and_true, WC, WV, WU, rs_b_0, rs_b_ok2, true_or, or_true, Classical.not_not, not_true_eq_false, if_true, if_false, reduceCtorEq, show ((0 : Int32) ≤ -1) ↔ False from ⟨fun z => absurd z (by decide), fun z => z.elim⟩, nI_addS, nI_cl, rs_in_t, Nat.add_zero]
    try simp only [Nat.add_zero] at hf
    simp (disch := omega) only [K_X12_weight, lk_X12_weight, XI, Nat.reduceAdd, Nat.reduceEqDiff, not_false_eq_true, nI_T1, nI_T0, true_and, and_true]
    exact hf
  · subst e
    have e2 : o = fr a b := by
      rw [ho]
      unfold grC
      rw [if_neg (by rw [nI_lt0S (by omega)]; exact id), nI_cl (by omega)]
    refine go a ha (max0_n (by omega)) ?_
    intro q e1
    rw [e1] at e2
    have hqF : isF q := fr_isF h12.1 e1
    have hq1 := hqF.1
    have hq2 := hqF.2.2.1
    have hf := fin (rs_u2 (kpI I L.length) 61 8 (nI g)) (rs_u2 (rs_u2 J 61 6 (lN q.1)) 61 7 (lN q.2)) q.1 q.2 (fun z => by rw [e2] at z; cases z) (fun r z => by rw [e2] at z; cases z; exact ⟨rfl, rfl⟩) (fun q j z => rs_u2_ne _ _ z) (fR_u (fR_u (fR_r J) (by decide)) (by decide))
    simp (disch := omega) only [g_X12_setsFraction_79, g_X12_setsFraction_80, g_X12_setsFraction_83, g_X12_setsFraction_85, g_X12_setsFraction_86, g_X12_setsFraction_89, g_X12_setsFraction_90, g_X12_setsFraction_93, g_X12_setsFraction_94, g_X12_setsFraction_97, g_X12_setsFraction_98, g_X12_setsFraction_99, g_X12_setsFraction_100, g_X12_setsFraction_103, g_X12_setsFraction_105, g_X12_setsFraction_106, g_X12_setsFraction_107, g_X12_setsFraction_108, g_X12_setsFraction_111, g_X12_setsFraction_112, g_X12_setsFraction_115, g_X12_setsFraction_116, g_X12_setsFraction_119, g_X12_setsFraction_120, g_X12_setsFraction_121, g_X12_setsFraction_123, lk_X12_setsFraction, XI, Nat.reduceAdd, Nat.reduceEqDiff, not_false_eq_true, nI_T1, nI_T0, true_and, and_true, WC, WV, WU, rs_b_0, rs_b_ok2, true_or, or_true, Classical.not_not, not_true_eq_false, if_true, if_false, reduceCtorEq, nI_ge0S, nI_addS, nI_cl, rs_in_t, rs_u2_eq, rs_u2_ne, lN_i, Nat.add_zero]
    try simp only [Nat.add_zero] at hf
    simp (disch := omega) only [K_X12_weight, lk_X12_weight, XI, Nat.reduceAdd, Nat.reduceEqDiff, not_false_eq_true, nI_T1, nI_T0, true_and, and_true]
    exact hf
theorem b_density (hS : SOk D Ds L tp) (x0 x1 x2 : Int32) : BC yX11_density yX12_density [.int x0, .int x1, .int x2] D Ds L tp rea := by
  by_cases c0 : nI 0 ≤ x0 ∧ x0 ≤ nI 11
  · obtain ⟨i, -, hi0, rfl⟩ := (nI_within (by decide) (by decide)).mp c0
    have hi : i < 12 := by omega
    by_cases c1 : -1 ≤ x1 ∧ x1 ≤ nI 9999
    · by_cases c2 : nI 1 ≤ x2 ∧ x2 ≤ nI 9999
      · obtain ⟨b, hb1, hb, rfl⟩ := (nI_within (by decide) (by decide)).mp c2
        have hoo : okO (grC x1 b) := by
          intro q e
          unfold grC at e
          split at e
          · cases e
          · exact fr_isF hb1 e
        exact ⟨D.setI i ((D.ig i).setDe (grC x1 b)), Ds, nxL L D, tp, rea, _, nxL_ok hS (Dt.setI_ok hS.1 (Ig.setDe_ok (hS.1.2.1 i hi) hoo)), c_density hS hi c1 c2 _ rfl hoo ⟨hb1, hb⟩, r_density hS hi c1 c2 _ rfl ⟨hb1, hb⟩, Or.inl ⟨_, rfl⟩⟩
      · refine BC_same hS (.int (-2)) (Or.inl ⟨_, rfl⟩) (fun d P n s I J R Q h hQ => ?_) (fun d P n s I J R Q h hQ => ?_)
        · obtain ⟨q, hR, hq⟩ := h.2.1
          obtain ⟨y, hy, cy⟩ := g_ingredientAt hq hi
          rw [em_X11_density]
          simp (disch := omega) only [K_X11_density, lk_X11_density, em_X11_changeGrams, g_X11_changeGrams_0, g_X11_changeGrams_1, g_X11_changeGrams_4, g_X11_changeGrams_5, g_X11_changeGrams_8, g_X11_changeGrams_10, g_X11_changeGrams_12, g_X11_changeGrams_15, g_X11_changeGrams_16, g_X11_changeGrams_17, g_X11_changeGrams_18, g_X11_changeGrams_19, g_X11_changeGrams_22, g_X11_changeGrams_25, g_X11_changeGrams_28, g_X11_changeGrams_30, g_X11_changeGrams_31, g_X11_changeGrams_34, g_X11_changeGrams_37, g_X11_changeGrams_40, g_X11_changeGrams_42, lk_X11_changeGrams, XI, Nat.reduceAdd, Nat.reduceEqDiff, not_false_eq_true, nI_T1, nI_T0, true_and, and_true, WC, WV, WU, rs_b_0, rs_b_ok2, true_or, or_true, Classical.not_not, not_true_eq_false, if_true, if_false, reduceCtorEq, s_X11_isWithin, hR, va_rf, k_St P n s I J R hq, cy, c1, c2]
          exact hQ
        · rw [em_X12_density]
          simp (disch := omega) only [K_X12_density, lk_X12_density, em_X12_setsFraction, g_X12_setsFraction_0, g_X12_setsFraction_1, g_X12_setsFraction_4, g_X12_setsFraction_7, g_X12_setsFraction_8, g_X12_setsFraction_9, g_X12_setsFraction_10, g_X12_setsFraction_11, g_X12_setsFraction_14, g_X12_setsFraction_17, g_X12_setsFraction_20, g_X12_setsFraction_22, g_X12_setsFraction_23, g_X12_setsFraction_26, g_X12_setsFraction_29, g_X12_setsFraction_32, g_X12_setsFraction_34, lk_X12_setsFraction, XI, Nat.reduceAdd, Nat.reduceEqDiff, not_false_eq_true, nI_T1, nI_T0, true_and, and_true, WC, WV, WU, rs_b_0, rs_b_ok2, true_or, or_true, Classical.not_not, not_true_eq_false, if_true, if_false, reduceCtorEq, s_X12_isIngredient, s_X12_in, c0, c1, c2]
          exact hQ
    · refine BC_same hS (.int (-2)) (Or.inl ⟨_, rfl⟩) (fun d P n s I J R Q h hQ => ?_) (fun d P n s I J R Q h hQ => ?_)
      · obtain ⟨q, hR, hq⟩ := h.2.1
        obtain ⟨y, hy, cy⟩ := g_ingredientAt hq hi
        rw [em_X11_density]
        simp (disch := omega) only [K_X11_density, lk_X11_density, em_X11_changeGrams, g_X11_changeGrams_0, g_X11_changeGrams_1, g_X11_changeGrams_4, g_X11_changeGrams_5, g_X11_changeGrams_8, g_X11_changeGrams_10, g_X11_changeGrams_12, g_X11_changeGrams_15, g_X11_changeGrams_16, g_X11_changeGrams_17, g_X11_changeGrams_18, g_X11_changeGrams_19, g_X11_changeGrams_22, g_X11_changeGrams_25, g_X11_changeGrams_28, g_X11_changeGrams_30, g_X11_changeGrams_31, g_X11_changeGrams_34, g_X11_changeGrams_37, g_X11_changeGrams_40, g_X11_changeGrams_42, lk_X11_changeGrams, XI, Nat.reduceAdd, Nat.reduceEqDiff, not_false_eq_true, nI_T1, nI_T0, true_and, and_true, WC, WV, WU, rs_b_0, rs_b_ok2, true_or, or_true, Classical.not_not, not_true_eq_false, if_true, if_false, reduceCtorEq, s_X11_isWithin, hR, va_rf, k_St P n s I J R hq, cy, c1]
        exact hQ
      · rw [em_X12_density]
        simp (disch := omega) only [K_X12_density, lk_X12_density, em_X12_setsFraction, g_X12_setsFraction_0, g_X12_setsFraction_1, g_X12_setsFraction_4, g_X12_setsFraction_7, g_X12_setsFraction_8, g_X12_setsFraction_9, g_X12_setsFraction_10, g_X12_setsFraction_11, g_X12_setsFraction_14, g_X12_setsFraction_17, g_X12_setsFraction_20, g_X12_setsFraction_22, g_X12_setsFraction_23, g_X12_setsFraction_26, g_X12_setsFraction_29, g_X12_setsFraction_32, g_X12_setsFraction_34, lk_X12_setsFraction, XI, Nat.reduceAdd, Nat.reduceEqDiff, not_false_eq_true, nI_T1, nI_T0, true_and, and_true, WC, WV, WU, rs_b_0, rs_b_ok2, true_or, or_true, Classical.not_not, not_true_eq_false, if_true, if_false, reduceCtorEq, s_X12_isIngredient, s_X12_in, c0, c1]
        exact hQ
  · refine BC_same hS (.int (-1)) (Or.inl ⟨_, rfl⟩) (fun d P n s I J R Q h hQ => ?_) (fun d P n s I J R Q h hQ => ?_)
    · obtain ⟨q, hR, hq⟩ := h.2.1
      rw [em_X11_density]
      simp (disch := omega) only [K_X11_density, lk_X11_density, em_X11_changeGrams, g_X11_changeGrams_0, g_X11_changeGrams_1, g_X11_changeGrams_4, g_X11_changeGrams_5, g_X11_changeGrams_8, g_X11_changeGrams_10, g_X11_changeGrams_12, g_X11_changeGrams_15, g_X11_changeGrams_16, lk_X11_changeGrams, XI, Nat.reduceAdd, Nat.reduceEqDiff, not_false_eq_true, nI_T1, nI_T0, true_and, and_true, WC, WV, WU, rs_b_0, rs_b_ok2, true_or, or_true, Classical.not_not, not_true_eq_false, if_true, if_false, reduceCtorEq, hR, va_rf, k_St P n s I J R hq, g_ingredientAt_o n s I J R _ _ hq c0]
      exact hQ
    · rw [em_X12_density]
      simp (disch := omega) only [K_X12_density, lk_X12_density, em_X12_setsFraction, g_X12_setsFraction_0, g_X12_setsFraction_1, g_X12_setsFraction_4, g_X12_setsFraction_7, g_X12_setsFraction_8, lk_X12_setsFraction, XI, Nat.reduceAdd, Nat.reduceEqDiff, not_false_eq_true, nI_T1, nI_T0, true_and, and_true, WC, WV, WU, rs_b_0, rs_b_ok2, true_or, or_true, Classical.not_not, not_true_eq_false, if_true, if_false, reduceCtorEq, s_X12_isIngredient, c0]
      exact hQ
theorem b_weight (hS : SOk D Ds L tp) (x0 x1 x2 : Int32) : BC yX11_weight yX12_weight [.int x0, .int x1, .int x2] D Ds L tp rea := by
  by_cases c0 : nI 0 ≤ x0 ∧ x0 ≤ nI 11
  · obtain ⟨i, -, hi0, rfl⟩ := (nI_within (by decide) (by decide)).mp c0
    have hi : i < 12 := by omega
    by_cases c1 : -1 ≤ x1 ∧ x1 ≤ nI 9999
    · by_cases c2 : nI 1 ≤ x2 ∧ x2 ≤ nI 9999
      · obtain ⟨b, hb1, hb, rfl⟩ := (nI_within (by decide) (by decide)).mp c2
        have hoo : okO (grC x1 b) := by
          intro q e
          unfold grC at e
          split at e
          · cases e
          · exact fr_isF hb1 e
        exact ⟨D.setI i ((D.ig i).setWe (grC x1 b)), Ds, nxL L D, tp, rea, _, nxL_ok hS (Dt.setI_ok hS.1 (Ig.setWe_ok (hS.1.2.1 i hi) hoo)), c_weight hS hi c1 c2 _ rfl hoo ⟨hb1, hb⟩, r_weight hS hi c1 c2 _ rfl ⟨hb1, hb⟩, Or.inl ⟨_, rfl⟩⟩
      · refine BC_same hS (.int (-2)) (Or.inl ⟨_, rfl⟩) (fun d P n s I J R Q h hQ => ?_) (fun d P n s I J R Q h hQ => ?_)
        · obtain ⟨q, hR, hq⟩ := h.2.1
          obtain ⟨y, hy, cy⟩ := g_ingredientAt hq hi
          rw [em_X11_weight]
          simp (disch := omega) only [K_X11_weight, lk_X11_weight, em_X11_changeGrams, g_X11_changeGrams_0, g_X11_changeGrams_1, g_X11_changeGrams_4, g_X11_changeGrams_5, g_X11_changeGrams_8, g_X11_changeGrams_10, g_X11_changeGrams_12, g_X11_changeGrams_15, g_X11_changeGrams_16, g_X11_changeGrams_17, g_X11_changeGrams_18, g_X11_changeGrams_19, g_X11_changeGrams_22, g_X11_changeGrams_25, g_X11_changeGrams_28, g_X11_changeGrams_30, g_X11_changeGrams_31, g_X11_changeGrams_34, g_X11_changeGrams_37, g_X11_changeGrams_40, g_X11_changeGrams_42, lk_X11_changeGrams, XI, Nat.reduceAdd, Nat.reduceEqDiff, not_false_eq_true, nI_T1, nI_T0, true_and, and_true, WC, WV, WU, rs_b_0, rs_b_ok2, true_or, or_true, Classical.not_not, not_true_eq_false, if_true, if_false, reduceCtorEq, s_X11_isWithin, hR, va_rf, k_St P n s I J R hq, cy, c1, c2]
          exact hQ
        · rw [em_X12_weight]
          simp (disch := omega) only [K_X12_weight, lk_X12_weight, em_X12_setsFraction, g_X12_setsFraction_0, g_X12_setsFraction_1, g_X12_setsFraction_4, g_X12_setsFraction_7, g_X12_setsFraction_8, g_X12_setsFraction_9, g_X12_setsFraction_10, g_X12_setsFraction_11, g_X12_setsFraction_14, g_X12_setsFraction_17, g_X12_setsFraction_20, g_X12_setsFraction_22, g_X12_setsFraction_23, g_X12_setsFraction_26, g_X12_setsFraction_29, g_X12_setsFraction_32, g_X12_setsFraction_34, lk_X12_setsFraction, XI, Nat.reduceAdd, Nat.reduceEqDiff, not_false_eq_true, nI_T1, nI_T0, true_and, and_true, WC, WV, WU, rs_b_0, rs_b_ok2, true_or, or_true, Classical.not_not, not_true_eq_false, if_true, if_false, reduceCtorEq, s_X12_isIngredient, s_X12_in, c0, c1, c2]
          exact hQ
    · refine BC_same hS (.int (-2)) (Or.inl ⟨_, rfl⟩) (fun d P n s I J R Q h hQ => ?_) (fun d P n s I J R Q h hQ => ?_)
      · obtain ⟨q, hR, hq⟩ := h.2.1
        obtain ⟨y, hy, cy⟩ := g_ingredientAt hq hi
        rw [em_X11_weight]
        simp (disch := omega) only [K_X11_weight, lk_X11_weight, em_X11_changeGrams, g_X11_changeGrams_0, g_X11_changeGrams_1, g_X11_changeGrams_4, g_X11_changeGrams_5, g_X11_changeGrams_8, g_X11_changeGrams_10, g_X11_changeGrams_12, g_X11_changeGrams_15, g_X11_changeGrams_16, g_X11_changeGrams_17, g_X11_changeGrams_18, g_X11_changeGrams_19, g_X11_changeGrams_22, g_X11_changeGrams_25, g_X11_changeGrams_28, g_X11_changeGrams_30, g_X11_changeGrams_31, g_X11_changeGrams_34, g_X11_changeGrams_37, g_X11_changeGrams_40, g_X11_changeGrams_42, lk_X11_changeGrams, XI, Nat.reduceAdd, Nat.reduceEqDiff, not_false_eq_true, nI_T1, nI_T0, true_and, and_true, WC, WV, WU, rs_b_0, rs_b_ok2, true_or, or_true, Classical.not_not, not_true_eq_false, if_true, if_false, reduceCtorEq, s_X11_isWithin, hR, va_rf, k_St P n s I J R hq, cy, c1]
        exact hQ
      · rw [em_X12_weight]
        simp (disch := omega) only [K_X12_weight, lk_X12_weight, em_X12_setsFraction, g_X12_setsFraction_0, g_X12_setsFraction_1, g_X12_setsFraction_4, g_X12_setsFraction_7, g_X12_setsFraction_8, g_X12_setsFraction_9, g_X12_setsFraction_10, g_X12_setsFraction_11, g_X12_setsFraction_14, g_X12_setsFraction_17, g_X12_setsFraction_20, g_X12_setsFraction_22, g_X12_setsFraction_23, g_X12_setsFraction_26, g_X12_setsFraction_29, g_X12_setsFraction_32, g_X12_setsFraction_34, lk_X12_setsFraction, XI, Nat.reduceAdd, Nat.reduceEqDiff, not_false_eq_true, nI_T1, nI_T0, true_and, and_true, WC, WV, WU, rs_b_0, rs_b_ok2, true_or, or_true, Classical.not_not, not_true_eq_false, if_true, if_false, reduceCtorEq, s_X12_isIngredient, s_X12_in, c0, c1]
        exact hQ
  · refine BC_same hS (.int (-1)) (Or.inl ⟨_, rfl⟩) (fun d P n s I J R Q h hQ => ?_) (fun d P n s I J R Q h hQ => ?_)
    · obtain ⟨q, hR, hq⟩ := h.2.1
      rw [em_X11_weight]
      simp (disch := omega) only [K_X11_weight, lk_X11_weight, em_X11_changeGrams, g_X11_changeGrams_0, g_X11_changeGrams_1, g_X11_changeGrams_4, g_X11_changeGrams_5, g_X11_changeGrams_8, g_X11_changeGrams_10, g_X11_changeGrams_12, g_X11_changeGrams_15, g_X11_changeGrams_16, lk_X11_changeGrams, XI, Nat.reduceAdd, Nat.reduceEqDiff, not_false_eq_true, nI_T1, nI_T0, true_and, and_true, WC, WV, WU, rs_b_0, rs_b_ok2, true_or, or_true, Classical.not_not, not_true_eq_false, if_true, if_false, reduceCtorEq, hR, va_rf, k_St P n s I J R hq, g_ingredientAt_o n s I J R _ _ hq c0]
      exact hQ
    · rw [em_X12_weight]
      simp (disch := omega) only [K_X12_weight, lk_X12_weight, em_X12_setsFraction, g_X12_setsFraction_0, g_X12_setsFraction_1, g_X12_setsFraction_4, g_X12_setsFraction_7, g_X12_setsFraction_8, lk_X12_setsFraction, XI, Nat.reduceAdd, Nat.reduceEqDiff, not_false_eq_true, nI_T1, nI_T0, true_and, and_true, WC, WV, WU, rs_b_0, rs_b_ok2, true_or, or_true, Classical.not_not, not_true_eq_false, if_true, if_false, reduceCtorEq, s_X12_isIngredient, c0]
      exact hQ
end
