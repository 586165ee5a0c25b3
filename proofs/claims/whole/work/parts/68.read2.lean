/-! a recipe is read: both sides -/
theorem CI_m {P P' : Nat → Option rs_C} {n n' : Nat} {I : Nat → Nat → Int32} {R : Nat → Nat → Option Nat} {D : Dt} {Ds : Option Dt} {L : List Dt} {tp : List Nat} {rea : Int32} (h : CI P n I R D Ds L tp rea) (hP : ∀ i, i < n → P' i = P i) (hn : n ≤ n') : CI P' n' I R D Ds L tp rea := by
  obtain ⟨c1, ⟨q, hq1, hq2⟩, c3, c4, c5, c6, c7, c8⟩ := h
  refine ⟨by omega, ⟨q, hq1, cSt_m hP hn hq2⟩, ?_, c4, ?_, c6, c7, c8⟩
  · unfold cSnap at c3 ⊢
    cases Ds with
    | none => exact c3
    | some X =>
      obtain ⟨y, hy, cy⟩ := c3
      exact ⟨y, hy, cSt_m hP hn cy⟩
  · intro k X hk
    obtain ⟨y, hy, cy⟩ := c5 k X hk
    exact ⟨y, hy, cSt_m hP hn cy⟩
theorem RI_t {I I' : Nat → Nat → Int32} {D : Dt} {Ds : Option Dt} {L : List Dt} {tp : List Nat} {rea : Int32} (h : RI I D Ds L tp rea) (he : ∀ q j, q = 62 ∨ q = 63 ∨ q = 64 → I' q j = I q j) (h1 : ∀ j, j = 2 ∨ j = 4 ∨ j = 5 ∨ j = 32 ∨ j = 33 ∨ j = 34 → I' 61 j = I 61 j) (h9 : I' 61 9 = nI 0) : RI I' D Ds L [] rea := by
  obtain ⟨a1, a2, a3, a4, a5, a6, a7, a8⟩ := h
  have e62 : I' 62 = I 62 := funext fun j => he 62 j (by omega)
  have e63 : I' 63 = I 63 := funext fun j => he 63 j (by omega)
  refine ⟨by rw [e62]; exact a1, ?_, by rw [h1 4 (by omega)]; exact a3, ?_, by rw [h1 5 (by omega)]; exact a5, h9, fun k v e => (by cases e), by rw [h1 32 (by omega), h1 33 (by omega), h1 34 (by omega)]; exact a8⟩
  · unfold rSnap at a2 ⊢
    cases Ds with
    | none => rw [h1 2 (by omega)]; exact a2
    | some X => rw [h1 2 (by omega), e63]; exact a2
  · intro k X hk
    rw [show (fun j => I' 64 (448 * k + j)) = fun j => I 64 (448 * k + j) from funext fun j => he 64 _ (by omega)]
    exact a4 k X hk
/-- what a reading answers -/
def rdV (tp : List Nat) : Int32 := match (pRc tp).2 with
  | none => -100 - nI (pRc tp).1
  | some z => nI z.1
section
variable {D : Dt} {Ds : Option Dt} {L : List Dt} {tp : List Nat} {rea : Int32}
theorem c_read_n (hS : SOk D Ds L tp) (hz : (pRc tp).2 = none) : CC yX11_read [] D Ds L tp rea D Ds L [] rea (.int (rdV tp)) := by
  intro d P n s I J R Q h hQ
  have hT : TC I tp := ⟨h.2.2.2.2.2.2.1, h.2.2.2.2.2.2.2, hS.2.2.2.2⟩
  rw [em_X11_read]
  simp (disch := omega) only [g_X11_read_0, g_X11_read_1, g_X11_read_4, lk_X11_read, XI, Nat.reduceAdd, Nat.reduceEqDiff, not_false_eq_true, nI_T1, nI_T0, true_and, and_true, WC, WV, WU]
  refine c_recipe I J R (d + 54) _ P n s h.1 hT ?_ ?_
  · intro P1 n1 s1 _ b1 b2 b3 b4
    have hc := CI_m h b4 b1
    obtain ⟨c1, c2, c3, c4, c5, c6, c7, c8⟩ := hc
    have hQ2 := hQ P1 n1 s1 (rs_u2 (rs_u2 I 43 2 (nI (pRc tp).1)) 43 1 (nI 0)) J R ⟨c1, c2, c3, by rw [rs_u2_ne _ _ (by omega), rs_u2_ne _ _ (by omega)]; exact c4, c5, by rw [rs_u2_ne _ _ (by omega), rs_u2_ne _ _ (by omega)]; exact c6, by rw [rs_u2_eq]; rfl, fun k v e => (by cases e)⟩ (fC_u (fC_u (fC_r I) (by decide)) (by decide)) (fC_r J) (by omega) (by omega)
    unfold rdV at hQ2
    rw [hz] at hQ2
    simp (disch := omega) only [g_X11_read_7, g_X11_read_8, g_X11_read_9, g_X11_read_12, g_X11_read_15, g_X11_read_16, g_X11_read_19, g_X11_read_21, g_X11_read_22, g_X11_read_25, g_X11_read_28, g_X11_read_29, lk_X11_read, em_X10_clear, K_X10_clear, lk_X10_clear, em_X10_errorPosition, K_X10_errorPosition, lk_X10_errorPosition, XI, Nat.reduceAdd, Nat.reduceEqDiff, not_false_eq_true, nI_T1, nI_T0, true_and, and_true, WC, WV, WU, rs_u2_ne, rs_u2_eq]
    exact hQ2
  · intro r Z P1 n1 s1 x e
    rw [hz] at e
    cases e
theorem c_read_s (hS : SOk D Ds L tp) {r : Nat} {Z : Rc} (hz : (pRc tp).2 = some (r, Z)) : CC yX11_read [] D Ds L tp rea (D.setR r (some Z)) Ds (nxL L D) [] rea (.int (rdV tp)) := by
  intro d P n s I J R Q h hQ
  have hT : TC I tp := ⟨h.2.2.2.2.2.2.1, h.2.2.2.2.2.2.2, hS.2.2.2.2⟩
  have hok := pRc_ok hz
  have hS0 : SOk D Ds L [] := ⟨hS.1, hS.2.1, hS.2.2.1, hS.2.2.2.1, Nat.zero_le _, fun k v e => (by cases e)⟩
  rw [em_X11_read]
  simp (disch := omega) only [g_X11_read_0, g_X11_read_1, g_X11_read_4, lk_X11_read, XI, Nat.reduceAdd, Nat.reduceEqDiff, not_false_eq_true, nI_T1, nI_T0, true_and, and_true, WC, WV, WU]
  refine c_recipe I J R (d + 54) _ P n s h.1 hT ?_ ?_
  · intro P1 n1 s1 e
    rw [hz] at e
    cases e
  · intro r2 Z2 P1 n1 s1 x e b1 b2 b3 cx b4
    rw [hz] at e
    cases e
    have hc := CI_m h b4 b1
    obtain ⟨c1, c2, c3, c4, c5, c6, c7, c8⟩ := hc
    have hc1 : CI P1 n1 (rs_u2 (rs_u2 I 43 2 (nI (pRc tp).1)) 43 1 (nI 0)) R D Ds L [] rea := ⟨c1, c2, c3, by rw [rs_u2_ne _ _ (by omega), rs_u2_ne _ _ (by omega)]; exact c4, c5, by rw [rs_u2_ne _ _ (by omega), rs_u2_ne _ _ (by omega)]; exact c6, by rw [rs_u2_eq]; rfl, fun k v e => (by cases e)⟩
    have fC1 : fC I (rs_u2 (rs_u2 I 43 2 (nI (pRc tp).1)) 43 1 (nI 0)) := fC_u (fC_u (fC_r I) (by decide)) (by decide)
    simp (disch := omega) only [g_X11_read_7, g_X11_read_8, g_X11_read_9, g_X11_read_12, g_X11_read_15, g_X11_read_16, lk_X11_read, em_X10_clear, K_X10_clear, lk_X10_clear, XI, Nat.reduceAdd, Nat.reduceEqDiff, not_false_eq_true, nI_T1, nI_T0, true_and, and_true, WC, WV, WU]
    generalize hI1 : rs_u2 (rs_u2 I 43 2 (nI (pRc tp).1)) 43 1 (nI 0) = I1 at hc1 fC1
    obtain ⟨q, hR, hq⟩ := hc1.2.1
    obtain ⟨V, i, U, x1, x2, v0, v1, v2, v3, v4, xn, xs⟩ := id cx
    simp (disch := omega) only [g_X11_read_30, g_X11_read_31, g_X11_read_34, lk_X11_read, XI, Nat.reduceAdd, Nat.reduceEqDiff, not_false_eq_true, nI_T1, nI_T0, true_and, and_true, WC, WV, WU, hR, va_rf, k_St P1 n1 s1 I1 J R hq]
    refine s_X7_copy n1 s1 I1 J R (d + 57) _ c1 hq ?_
    intro P2 V2 Ua Uc Ue o1 p1
    have cx2 := cRc_m p1 (show n1 ≤ n1 + 4 by omega) cx
    have x1' := cP_m p1 (show n1 ≤ n1 + 4 by omega) x1
    simp (disch := omega) only [g_X11_read_37, g_X11_read_38, g_X11_read_39, g_X11_read_40, g_X11_read_43, g_X11_read_44, lk_X11_read, XI, Nat.reduceAdd, Nat.reduceEqDiff, not_false_eq_true, nI_T1, nI_T0, true_and, and_true, WC, WV, WU, k_oSt (n1 + 4) _ I1 J R o1, sk_cP (n1 + 4) (s1 + 31) I1 J R x1', v0]
    refine p_recipe (n1 + 4) _ I1 J R _ _ o1 (by omega) hok.1 (some x) (some Z) (fun z => by cases z) (fun X e => by cases e; exact ⟨x, rfl, cx2⟩) ?_
    intro o2
    simp (disch := omega) only [g_X11_read_47, g_X11_read_48, g_X11_read_49, lk_X11_read, XI, Nat.reduceAdd, Nat.reduceEqDiff, not_false_eq_true, nI_T1, nI_T0, true_and, and_true, WC, WV, WU]
    have hP2 : ∀ j, j < n1 → va_up P2 (n1 + 1) (some (17, 8, va_up Ua r (va_rf (some x)))) j = P1 j := fun j hj => by rw [vu_ne _ _ (by omega)]; exact p1 j hj
    refine s_commit (n1 + 4) _ I1 J R _ _ hS0 hc1 hP2 (by omega) (cSt_o.mpr ⟨_, _, _, _, _, _, _, o2⟩) ?_
    intro I' R' h' f'
    have x2' := cP_m hP2 (show n1 ≤ n1 + 4 by omega) x1
    have hQ2 := hQ _ (n1 + 4) (s1 + 31) I' J R' h' (fC_t fC1 f') (fC_r J) (by omega) (by omega)
    unfold rdV at hQ2
    rw [hz] at hQ2
    simp (disch := omega) only [g_X11_read_52, g_X11_read_53, g_X11_read_56, lk_X11_read, XI, Nat.reduceAdd, Nat.reduceEqDiff, not_false_eq_true, nI_T1, nI_T0, true_and, and_true, WC, WV, WU, sk_cP (n1 + 4) (s1 + 31) I' J R' x2', v0]
    exact hQ2
theorem X12_read_all (hS : SOk D Ds L tp) (d : Nat) (P : Nat → Option rs_C) (n s : Nat) (I : Nat → Nat → Int32) (J : Nat → Nat → Int64) (R : Nat → Nat → Option Nat) (Q : rs_H → Option Value → Prop) (h : RI I D Ds L tp rea)
    (hn : ∀ I' J', (pRc tp).2 = none → RI I' D Ds L [] rea → fR I I' → fR J J' → Q (sk_w P n s I' J' R) (some (.int (-100 - nI (pRc tp).1))))
    (hs : ∀ r Z I' J', (pRc tp).2 = some (r, Z) → RI I' (D.setR r (some Z)) Ds (nxL L D) [] rea → fR I I' → fR J J' → Q (sk_w P n s I' J' R) (some (.int (nI r)))) : rs_XM (d + 5) yX12_read [.ref 61] (sk_w P n s I J R) Q := by
  have hS0 : SOk D Ds L [] := ⟨hS.1, hS.2.1, hS.2.2.1, hS.2.2.2.1, Nat.zero_le _, fun k v e => (by cases e)⟩
  have h9 := h.2.2.2.2.2.1
  have h65 := h.2.2.2.2.2.2.1
  rw [em_X12_read]
  simp (disch := omega) only [g_X12_read_0, g_X12_read_1, g_X12_read_2, g_X12_read_5, g_X12_read_8, g_X12_read_9, g_X12_read_10, g_X12_read_13, g_X12_read_14, g_X12_read_15, g_X12_read_18, g_X12_read_19, g_X12_read_20, g_X12_read_23, g_X12_read_24, g_X12_read_25, g_X12_read_28, g_X12_read_29, lk_X12_read, XI, Nat.reduceAdd, Nat.reduceEqDiff, not_false_eq_true, nI_T1, nI_T0, true_and, and_true, WC, WV, WU, h9]
  generalize hI1 : rs_u2 (rs_u2 (rs_u2 (rs_u2 (rs_u2 I 61 11 (nI tp.length)) 61 9 (nI 0)) 61 12 (nI 0)) 61 13 (nI 0)) 61 8 (nI 0) = I1
  have i1 : ∀ q j, ¬ (q = 61 ∧ (j = 8 ∨ j = 9 ∨ j = 11 ∨ j = 12 ∨ j = 13)) → I1 q j = I q j := fun q j e => by rw [← hI1, rs_u2_ne _ _ (by omega), rs_u2_ne _ _ (by omega), rs_u2_ne _ _ (by omega), rs_u2_ne _ _ (by omega), rs_u2_ne _ _ (by omega)]
  have i11 : I1 61 11 = nI tp.length := by rw [← hI1, rs_u2_ne _ _ (by omega), rs_u2_ne _ _ (by omega), rs_u2_ne _ _ (by omega), rs_u2_ne _ _ (by omega), rs_u2_eq]
  have i9 : I1 61 9 = nI 0 := by rw [← hI1, rs_u2_ne _ _ (by omega), rs_u2_ne _ _ (by omega), rs_u2_ne _ _ (by omega), rs_u2_eq]
  have i12 : I1 61 12 = nI 0 := by rw [← hI1, rs_u2_ne _ _ (by omega), rs_u2_ne _ _ (by omega), rs_u2_eq]
  have i13 : I1 61 13 = nI 0 := by rw [← hI1, rs_u2_ne _ _ (by omega), rs_u2_eq]
  have i8 : I1 61 8 = nI 0 := by rw [← hI1, rs_u2_eq]
  have hz0 := X12_read_z P n s R (d + 5) Q I1 J none none 30 0 rfl
  rw [cpU_0] at hz0
  refine hz0 ?_
  intro x1
  simp (disch := omega) only [g_X12_read_49, g_X12_read_50, g_X12_read_53, g_X12_read_54, g_X12_read_55, g_X12_read_56, g_X12_read_57, g_X12_read_59, lk_X12_read, XI, Nat.reduceAdd, Nat.reduceEqDiff, not_false_eq_true, nI_T1, nI_T0, true_and, and_true, WC, WV, WU, nI_cl, rs_in_t]
  generalize hI2 : rs_u2 (cpU I1 66 0 30 fun _ => nI 0) 66 0 (nI 1) = I2
  have i2 : ∀ q j, ¬ q = 66 → I2 q j = I1 q j := fun q j e => by rw [← hI2, rs_u2_ne _ _ (fun z => e z.1), cpU_ne _ _ _ _ _ _ e]
  have j0 : I2 66 0 = nI 1 := by rw [← hI2, rs_u2_eq]
  have jj : ∀ j, 1 ≤ j → j < 30 → I2 66 j = nI 0 := fun j a b => by rw [← hI2, rs_u2_ne _ _ (by omega), cpU_in _ _ _ _ _ (by omega) b]
  have eW : WR I2 0 0 = I2 := by
    unfold WR
    rw [rs_u2_id I2 (by rw [i2 61 12 (by decide)]; exact i12), rs_u2_id I2 (by rw [i2 61 13 (by decide)]; exact i13)]
  have hT2 : TI I2 tp := ⟨by rw [i2 61 11 (by decide)]; exact i11, fun k v e => by rw [i2 65 k (by decide), i1 65 k (by omega)]; exact h65 k v e, hS.2.2.2.2⟩
  have h82 : I2 61 8 = nI 0 := by rw [i2 61 8 (by decide)]; exact i8
  have hRW : RW I2 [] := ⟨j0, jj 1 (by decide) (by decide), jj 5 (by decide) (by decide), fun k t e => (by cases e)⟩
  have rd : ∀ I' p b, fW I2 I' → RI (WR I' p b) D Ds L [] rea ∧ fR I (WR I' p b) := by
    intro I' p b f
    refine ⟨RI_t h ?_ ?_ ?_, ?_⟩
    · intro q j e
      rw [WR_ne _ _ _ (by omega) (by omega), f q j (by omega), i2 q j (by omega), i1 q j (by omega)]
    · intro j e
      rw [WR_ne _ _ _ (by omega) (by omega), f 61 j (by decide), i2 61 j (by decide), i1 61 j (by omega)]
    · rw [WR_ne _ _ _ (by omega) (by omega), f 61 9 (by decide), i2 61 9 (by decide), i9]
    · intro q j e
      rw [WR_ne _ _ _ (by omega) (by omega), f q j (by omega), i2 q j (by omega), i1 q j (by omega)]
  have fkR : ∀ J', fK J J' → fR J J' := fun J' f q j e => f q j (by omega)
  have bad : ∀ I' J' p, (pRc tp).2 = none → (pRc tp).1 = p → fW I2 I' → fK J J' → Q (sk_w P n s (WR I' p 1) J' R) (some (.int (-100 - nI p))) := by
    intro I' J' p e1 e2 f1 f2
    have r1 := rd I' p 1 f1
    have hq := hn (WR I' p 1) J' e1 r1.1 r1.2 (fkR J' f2)
    rw [e2] at hq
    exact hq
  rw [← eW]
  simp (disch := omega) only [g_X12_read_61, lk_X12_read, XI, Nat.reduceAdd, Nat.reduceEqDiff, not_false_eq_true, nI_T1, nI_T0, true_and, and_true, WC, WV, WU, r_one P n s I2 J R _ _ hT2 (show 48 ≤ 55 by decide) (show 55 ≤ 127 by decide) (Nat.zero_le _) (Nat.zero_le 1), if_true, true_and]
  cases e1 : pB tp 48 55 0 with
  | none =>
    have eR : pRc tp = (0, none) := by unfold pRc; rw [e1]
    simp (disch := omega) only [not_true_eq_false, if_false, g_X12_read_64, g_X12_read_65, g_X12_read_66, g_X12_read_68, g_X12_read_71, g_X12_read_72, g_X12_read_75, g_X12_read_78, g_X12_read_79, g_X12_read_82, g_X12_read_83, lk_X12_read, XI, Nat.reduceAdd, Nat.reduceEqDiff, not_false_eq_true, nI_T1, nI_T0, true_and, and_true, WC, WV, WU, Option.getD_none, r_need P n s I2 J R _ _ hT2 (show 58 ≤ 127 by decide) (Nat.zero_le _) (Nat.le_refl 1), Nat.succ_ne_zero, false_and, WR_a13, nI_10f, not_false_eq_true, if_true]
    rw [g_X12_read_84]
    simp (disch := omega) only [g_X12_read_85, lk_X12_read, XI, Nat.reduceAdd, Nat.reduceEqDiff, not_false_eq_true, nI_T1, nI_T0, true_and, and_true, WC, WV, WU, nI_00, if_true]
    exact r_wrong2 P n s R d Q I2 J hT2 (Nat.zero_le _) (Nat.le_refl 1) (fun z => by cases z.1) _ _ _ (bad I2 J 0 (by rw [eR]) (by rw [eR]) (fW_r I2) (fK_r J))
  | some r =>
    have a1 := pB_s e1
    have hp1 : 1 ≤ tp.length := by omega
    simp (disch := omega) only [reduceCtorEq, not_false_eq_true, if_true, Nat.zero_add, g_X12_read_64, g_X12_read_65, g_X12_read_66, g_X12_read_68, g_X12_read_71, g_X12_read_72, lk_X12_read, XI, Nat.reduceAdd, Nat.reduceEqDiff, not_false_eq_true, nI_T1, nI_T0, true_and, and_true, WC, WV, WU, Option.getD_some, r_need P n s I2 J R _ _ hT2 (show 58 ≤ 127 by decide) hp1 (Nat.zero_le 1), true_and]
    by_cases c1 : tp[1]? = some 58
    · have hp2 : 2 ≤ tp.length := lt_of_get c1
      have hits := pIts_le (tp := tp) 6 2 [] hp2 (by decide) (fun k t e => by cases e)
      simp (disch := omega) only [c1, if_true, g_X12_read_75, g_X12_read_78, g_X12_read_79, g_X12_read_82, g_X12_read_83, lk_X12_read, XI, Nat.reduceAdd, Nat.reduceEqDiff, not_false_eq_true, nI_T1, nI_T0, true_and, and_true, WC, WV, WU, WR_a13, nI_00, not_true_eq_false, if_false]
      rw [g_X12_read_84]
      simp (disch := omega) only [g_X12_read_85, lk_X12_read, XI, Nat.reduceAdd, Nat.reduceEqDiff, not_false_eq_true, nI_T1, nI_T0, true_and, and_true, WC, WV, WU, nI_10f, if_false]
      refine r_items_l P n s R d Q trivial (tp := tp) none 5 2 [] I2 J _ rfl hT2 h82 hp2 hRW ?_ ?_
      · intro I' J' e2 f1 f2
        have e2 : (pIts tp 6 2 []).2 = none := e2
        have eR : pRc tp = ((pIts tp 6 2 []).1, none) := by unfold pRc; rw [e1]; dsimp only; rw [if_pos c1, e2]
        exact r_wrong2 P n s R d Q I' J' (TI_f hT2 f1) hits.1 (Nat.le_refl 1) (fun z => by cases z.1) _ _ _ (bad I' J' _ (by rw [eR]) (by rw [eR]) f1 f2)
      · intro l I3 J3 e2 hR3 f1 f2
        have e2 : (pIts tp 6 2 []).2 = some l := e2
        have hT3 := TI_f hT2 f1
        have h83 : I3 61 8 = nI 0 := by rw [f1 61 8 (by decide)]; exact h82
        by_cases c2 : tp[(pIts tp 6 2 []).1]? = some 61
        · have hp3 := lt_of_get c2
          have h2 := pAm_le (tp := tp) (p := (pIts tp 6 2 []).1 + 1) hp3
          simp (disch := omega) only [g_X12_read_128, g_X12_read_129, g_X12_read_131, g_X12_read_134, g_X12_read_135, g_X12_read_138, g_X12_read_141, g_X12_read_142, g_X12_read_143, lk_X12_read, XI, Nat.reduceAdd, Nat.reduceEqDiff, not_false_eq_true, nI_T1, nI_T0, true_and, and_true, WC, WV, WU, r_need P n s I3 J3 R _ _ hT3 (show 61 ≤ 127 by decide) hits.1 (Nat.zero_le 1), c2, true_and, if_true, WR_a13, nI_00, not_true_eq_false, if_false]
          refine r_amount P n s I3 J3 R (d + 1) _ hT3 h83 hp3 (Nat.zero_le 1) (show 2 + 2 < 30 by decide) ?_ ?_
          · intro f k J4 _ e3 f3
            have hf := h2.2 _ e3
            have hk2 : k ≤ 2 := hf.2
            have hlF := (lw_fr hf.1).2.1
            generalize hI4 : rs_u2 (rs_u2 (rs_u2 I3 66 2 (nI (lw f).1)) 66 (2 + 1) (nI (lw f).2)) 66 (2 + 2) (nI k) = I4
            have g4 : fW I3 I4 := fun q j e => by rw [← hI4, rs_u2_ne _ _ (fun z => e z.1), rs_u2_ne _ _ (fun z => e z.1), rs_u2_ne _ _ (fun z => e z.1)]
            have hT4 := TI_f hT3 g4
            have k4 : ∀ j, ¬ j = 2 → ¬ j = 3 → ¬ j = 4 → I4 66 j = I3 66 j := fun j a b c => by rw [← hI4, rs_u2_ne _ _ (by omega), rs_u2_ne _ _ (by omega), rs_u2_ne _ _ (by omega)]
            have k42 : I4 66 2 = nI (lw f).1 := by rw [← hI4, rs_u2_ne _ _ (by omega), rs_u2_ne _ _ (by omega), rs_u2_eq]
            have k43 : I4 66 3 = nI (lw f).2 := by rw [← hI4, rs_u2_ne _ _ (by omega), rs_u2_eq]
            have k44 : I4 66 4 = nI k := by rw [← hI4, rs_u2_eq]
            generalize hp4 : (pAm tp ((pIts tp 6 2 []).1 + 1)).1 = p4 at *
            have h5 := pEn_le (tp := tp) h2.1
            have eR : ∀ q o, pEn tp p4 = (q, o) → pRc tp = (q, o.map fun v => (r, Rc.mk l (lw f) k v)) := by
              intro q o eq
              unfold pRc
              rw [e1]
              dsimp only
              rw [if_pos c1, e2]
              dsimp only
              rw [if_pos c2, e3, hp4]
              dsimp only
              rw [eq]
              cases o <;> rfl
            have fin : ∀ (I5 : Nat → Nat → Int32) (pe v b : Nat), fW I4 I5 → (∀ j, ¬ j = 5 → I5 66 j = I4 66 j) → I5 66 5 = nI v → b ≤ 1 → pe ≤ tp.length → (b = 0 → pe = tp.length → pEn tp p4 = (pe, some v)) → (¬ (b = 0 ∧ pe = tp.length) → pEn tp p4 = (pe, none)) → rs_X (d + 5) yX12_read 165 [some (.ref 61), some (.int (nI r)), some (.int (nI 0)), none] [] (sk_w P n s (WR I5 pe b) J4 R) Q := by
              intro I5 pe v b g5 k5 k55 hb hpe q1 q2
              have fw5 : fW I2 I5 := fW_t (fW_t f1 g4) g5
              have fk5 : fK J J4 := fK_t f2 f3
              have h11 : I5 61 11 = nI tp.length := by rw [fw5 61 11 (by decide)]; exact hT2.1
              have ht60 := hS.2.2.2.2.1
              by_cases cb : b = 0 ∧ pe = tp.length
              · obtain ⟨cb0, cpe⟩ := id cb
                subst cb0
                have eR2 := eR _ _ (q1 rfl cpe)
                obtain ⟨hRI, hfR⟩ := rd I5 pe 0 fw5
                have hL := hS.2.2.1
                have hr8 : r < 8 := by omega
                simp (disch := omega) only [g_X12_read_165, g_X12_read_166, g_X12_read_169, g_X12_read_172, g_X12_read_173, g_X12_read_176, g_X12_read_177, g_X12_read_180, g_X12_read_183, g_X12_read_185, g_X12_read_186, g_X12_read_189, g_X12_read_190, g_X12_read_191, g_X12_read_192, g_X12_read_195, g_X12_read_196, lk_X12_read, XI, Nat.reduceAdd, Nat.reduceEqDiff, not_false_eq_true, nI_T1, nI_T0, true_and, and_true, WC, WV, WU, WR_a13, nI_00, not_true_eq_false, if_false, WR_a12, WR_ne, h11, nI_leS, cpe, Nat.le_refl, if_true]
                rw [← cpe]
                rw [s_X12_keep _ P n s (WR I5 pe 0) J4 R _ hL hRI.2.2.1]
                simp (disch := omega) only [g_X12_read_195, g_X12_read_196, lk_X12_read, XI, Nat.reduceAdd, Nat.reduceEqDiff, not_false_eq_true, nI_T1, nI_T0, true_and, and_true, WC, WV, WU]
                generalize hK : kpI (WR I5 pe 0) L.length = IK
                have kne : ∀ q j, ¬ (q = 61 ∧ j = 4) → ¬ q = 64 → IK q j = WR I5 pe 0 q j := fun q j a b => by rw [← hK]; exact kpI_ne _ _ a b
                have hk0 := X12_read_k P n s R (d + 5) Q IK J4 hr8 (nI 0) 30 0 rfl
                rw [show 30 * r + 0 = 30 * r from rfl, cpU_0] at hk0
                refine hk0 ?_
                simp (disch := omega) only [g_X12_read_226, g_X12_read_227, lk_X12_read, XI, Nat.reduceAdd, Nat.reduceEqDiff, not_false_eq_true, nI_T1, nI_T0, true_and, and_true, WC, WV, WU]
                have e2R : (pRc tp).2 = some (r, Rc.mk l (lw f) k v) := by rw [eR2]; rfl
                have row : ∀ j, j < 30 → (cpU IK 62 (30 * r) (30 * r + 30) fun j => IK 66 (j - 30 * r)) 62 (30 * r + j) = I5 66 j := fun j hj => by
                  rw [cpU_in _ _ _ _ _ (by omega) (by omega), show 30 * r + j - 30 * r = j by omega, kne 66 j (by omega) (by decide), WR_ne _ _ _ (by omega) (by omega)]
                refine hs r _ _ J4 e2R (RI_keep hS0 hRI (mDt_R hS0.1 hr8 (fun j hj => ?_) ?_ hRI.1) (fun q j a b => ?_)) ?_ (fkR J4 fk5)
                · rw [cpU_out _ _ _ _ _ hj, kne 62 j (by omega) (by decide)]
                · have hits2 := hits.2 l e2
                  refine ⟨?_, ?_, ?_, ?_, ?_, ?_, ?_⟩
                  · refine Eq.trans (row 0 (by decide)) ?_
                    rw [k5 0 (by decide), k4 0 (by decide) (by decide) (by decide)]
                    exact hR3.1
                  · rw [row 1 (by decide), k5 1 (by decide), k4 1 (by decide) (by decide) (by decide)]; exact hR3.2.1
                  · rw [row 2 (by decide), k5 2 (by decide)]; exact k42
                  · rw [row 3 (by decide), k5 3 (by decide)]; exact k43
                  · rw [row 4 (by decide), k5 4 (by decide)]; exact k44
                  · rw [row 5 (by decide)]; exact k55
                  · intro k2 t2 hk2
                    have hl6 := (List.getElem?_eq_some_iff.mp hk2).1
                    have hl6 : k2 < l.length := hl6
                    have hl62 := hits2.1
                    obtain ⟨m1, m2, m3, m4⟩ := hR3.2.2.2 k2 t2 hk2
                    refine ⟨?_, ?_, ?_, ?_⟩
                    · rw [show 30 * r + 6 + 4 * k2 = 30 * r + (6 + 4 * k2) by omega, row _ (by omega), k5 _ (by omega), k4 _ (by omega) (by omega) (by omega)]; exact m1
                    · rw [show 30 * r + 6 + 4 * k2 + 1 = 30 * r + (6 + 4 * k2 + 1) by omega, row _ (by omega), k5 _ (by omega), k4 _ (by omega) (by omega) (by omega)]; exact m2
                    · rw [show 30 * r + 6 + 4 * k2 + 2 = 30 * r + (6 + 4 * k2 + 2) by omega, row _ (by omega), k5 _ (by omega), k4 _ (by omega) (by omega) (by omega)]; exact m3
                    · rw [show 30 * r + 6 + 4 * k2 + 3 = 30 * r + (6 + 4 * k2 + 3) by omega, row _ (by omega), k5 _ (by omega), k4 _ (by omega) (by omega) (by omega)]; exact m4
                · rw [cpU_ne _ _ _ _ _ _ a, ← hK]
                · intro q j e
                  rw [cpU_ne _ _ _ _ _ _ (by omega), kne q j (by omega) (by omega)]
                  exact hfR q j e
              · have eR2 := eR _ _ (q2 cb)
                obtain ⟨hRI, hfR⟩ := rd I5 pe b fw5
                have hq := hn (WR I5 pe b) J4 (by rw [eR2]; rfl) hRI hfR (fkR J4 fk5)
                rw [eR2] at hq
                by_cases b0 : b = 0
                · subst b0
                  have hlt : ¬ tp.length ≤ pe := fun z => cb ⟨rfl, by omega⟩
                  simp (disch := omega) only [g_X12_read_165, g_X12_read_166, g_X12_read_169, g_X12_read_172, g_X12_read_173, g_X12_read_176, g_X12_read_177, g_X12_read_180, g_X12_read_183, g_X12_read_185, g_X12_read_186, g_X12_read_189, g_X12_read_190, lk_X12_read, XI, Nat.reduceAdd, Nat.reduceEqDiff, not_false_eq_true, nI_T1, nI_T0, true_and, and_true, WC, WV, WU, WR_a13, nI_00, not_true_eq_false, if_false, WR_a12, WR_ne, h11, nI_leS, hlt]
                  exact hq
                · have b1 : b = 1 := by omega
                  subst b1
                  simp (disch := omega) only [g_X12_read_165, g_X12_read_166, g_X12_read_169, g_X12_read_172, g_X12_read_173, g_X12_read_176, g_X12_read_177, g_X12_read_180, g_X12_read_183, g_X12_read_185, g_X12_read_186, g_X12_read_189, g_X12_read_190, lk_X12_read, XI, Nat.reduceAdd, Nat.reduceEqDiff, not_false_eq_true, nI_T1, nI_T0, true_and, and_true, WC, WV, WU, WR_a13, nI_10f, not_false_eq_true, if_true, WR_a12]
                  exact hq
            have w5 : I4 66 5 = nI 0 := by rw [k4 5 (by decide) (by decide) (by decide)]; exact hR3.2.2.1
            simp (disch := omega) only [g_X12_read_146, g_X12_read_147, g_X12_read_149, g_X12_read_152, lk_X12_read, XI, Nat.reduceAdd, Nat.reduceEqDiff, not_false_eq_true, nI_T1, nI_T0, true_and, and_true, WC, WV, WU, r_takes P n s I4 J4 R _ _ hT4 (show 64 ≤ 127 by decide) h2.1 (Nat.zero_le 1), true_and, rs_b_0]
            by_cases c3 : tp[p4]? = some 64
            · have h6 := pN_le (tp := tp) (p := p4 + 1) (lt_of_get c3)
              have eE : pEn tp p4 = (match (pN tp (p4 + 1)).2 with
                | none => ((pN tp (p4 + 1)).1, none)
                | some v => if (pN tp (p4 + 1)).1 = tp.length then ((pN tp (p4 + 1)).1, some v) else ((pN tp (p4 + 1)).1, none)) := by unfold pEn; rw [if_pos c3]; rfl
              have g5 : ∀ v : Int32, fW I4 (rs_u2 I4 66 5 v) := fun v q j e => rs_u2_ne _ _ (fun z => e z.1)
              simp (disch := omega) only [c3, not_true_eq_false, if_true, if_false, g_X12_read_155, g_X12_read_156, g_X12_read_159, g_X12_read_160, g_X12_read_161, g_X12_read_164, lk_X12_read, XI, Nat.reduceAdd, Nat.reduceEqDiff, not_false_eq_true, nI_T1, nI_T0, true_and, and_true, WC, WV, WU, r_number P n s I4 J4 R _ _ hT4 (lt_of_get c3) (Nat.zero_le 1), nI_cl, rs_in_t, WR_o]
              cases e5 : (pN tp (p4 + 1)).2 with
              | none =>
                rw [e5] at eE
                simp only [if_true, Option.getD_none]
                exact fin _ _ 1 1 (g5 _) (fun j hj => rs_u2_ne _ _ (by omega)) (rs_u2_eq _ _ _ _) (Nat.le_refl 1) h6.1 (fun z => by cases z) (fun _ => eE)
              | some v =>
                rw [e5] at eE
                dsimp only at eE
                simp only [reduceCtorEq, if_false, Option.getD_some]
                exact fin _ _ v 0 (g5 _) (fun j hj => rs_u2_ne _ _ (by omega)) (rs_u2_eq _ _ _ _) (Nat.zero_le 1) h6.1 (fun _ z => by rw [eE, if_pos z]) (fun z => by rw [eE, if_neg (fun y => z ⟨rfl, y⟩)])
            · have eE : pEn tp p4 = if p4 = tp.length then (p4, some 0) else (p4, none) := by unfold pEn; rw [if_neg c3]
              simp (disch := omega) only [c3, not_false_eq_true, if_true, if_false]
              exact fin I4 p4 0 0 (fW_r I4) (fun _ _ => rfl) w5 (Nat.zero_le 1) h2.1 (fun _ z => by rw [eE, if_pos z]) (fun z => by rw [eE, if_neg (fun y => z ⟨rfl, y⟩)])
          · intro I4 J4 e3 g4 f3
            have e3 := e3 rfl
            have eR : pRc tp = ((pAm tp ((pIts tp 6 2 []).1 + 1)).1, none) := by
              unfold pRc
              rw [e1]
              dsimp only
              rw [if_pos c1, e2]
              dsimp only
              rw [if_pos c2, e3]
            rw [if_pos rfl]
            simp (disch := omega) only [XI, Nat.reduceAdd, Nat.reduceEqDiff, not_false_eq_true, nI_T1, nI_T0, true_and, and_true]
            exact r_wrong P n s R d Q I4 J4 (TI_f hT3 g4) h2.1 _ _ _ (bad I4 J4 _ (by rw [eR]) (by rw [eR]) (fW_t f1 g4) (fK_t f2 f3))
        · have eR : pRc tp = ((pIts tp 6 2 []).1, none) := by
            unfold pRc
            rw [e1]
            dsimp only
            rw [if_pos c1, e2]
            dsimp only
            rw [if_neg c2]
          exact r_wrong2 P n s R d Q I3 J3 hT3 hits.1 (Nat.zero_le 1) (fun z => c2 z.2) _ _ _ (bad I3 J3 _ (by rw [eR]) (by rw [eR]) f1 f2)
    · have eR : pRc tp = (1, none) := by
        unfold pRc
        rw [e1]
        dsimp only
        rw [if_neg c1]
      simp (disch := omega) only [c1, if_false, g_X12_read_75, g_X12_read_78, g_X12_read_79, g_X12_read_82, g_X12_read_83, lk_X12_read, XI, Nat.reduceAdd, Nat.reduceEqDiff, not_false_eq_true, nI_T1, nI_T0, true_and, and_true, WC, WV, WU, WR_a13, nI_10f, not_false_eq_true, if_true]
      rw [g_X12_read_84]
      simp (disch := omega) only [g_X12_read_85, lk_X12_read, XI, Nat.reduceAdd, Nat.reduceEqDiff, not_false_eq_true, nI_T1, nI_T0, true_and, and_true, WC, WV, WU, nI_00, if_true]
      exact r_wrong2 P n s R d Q I2 J hT2 hp1 (Nat.le_refl 1) (fun z => by cases z.1) _ _ _ (bad I2 J 1 (by rw [eR]) (by rw [eR]) (fW_r I2) (fK_r J))
theorem b_read (hS : SOk D Ds L tp) : BC yX11_read yX12_read [] D Ds L tp rea := by
  have hS0 : SOk D Ds L [] := ⟨hS.1, hS.2.1, hS.2.2.1, hS.2.2.2.1, Nat.zero_le _, fun k v e => (by cases e)⟩
  cases hz : (pRc tp).2 with
  | none =>
    refine ⟨D, Ds, L, [], rea, _, hS0, c_read_n hS hz, ?_, Or.inl ⟨_, rfl⟩⟩
    intro d P n s I J R Q g8 h hQ
    refine X12_read_all hS (d + 55) P n s I J R Q h ?_ ?_
    · intro I' J' _ h' f1 f2
      have hQ2 := hQ I' J' h' f1 f2
      unfold rdV at hQ2
      rw [hz] at hQ2
      exact hQ2
    · intro r Z I' J' e
      rw [hz] at e
      cases e
  | some z =>
    obtain ⟨r, Z⟩ := z
    have hok := pRc_ok hz
    refine ⟨D.setR r (some Z), Ds, nxL L D, [], rea, _, nxL_ok hS0 (Dt.setR_ok hS.1 (fun X e => by cases e; exact hok)), c_read_s hS hz, ?_, Or.inl ⟨_, rfl⟩⟩
    intro d P n s I J R Q g8 h hQ
    refine X12_read_all hS (d + 55) P n s I J R Q h ?_ ?_
    · intro I' J' e
      rw [hz] at e
      cases e
    · intro r2 Z2 I' J' e h' f1 f2
      rw [hz] at e
      cases e
      have hQ2 := hQ I' J' h' f1 f2
      unfold rdV at hQ2
      rw [hz] at hQ2
      exact hQ2
end
