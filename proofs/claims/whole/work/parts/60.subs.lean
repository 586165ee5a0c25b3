/-! a substitution dropped -/
section
variable {P : Nat → Option rs_C} (n s : Nat) (I : Nat → Nat → Int32) (J : Nat → Nat → Int64) (R : Nat → Nat → Option Nat) (d : Nat) (Q : rs_H → Option Value → Prop)
theorem r_substitutionAt_6 {q a : Nat} {V U : Nat → Value} (kq : sk_kn q = none) (hq : P q = some (6, 5, V)) (v0 : V 2 = .ref a) (ka : sk_kn a = none) (ha : P a = some (19, 6, U)) : rs_XM d yX7_substitutionAt [.ref q, .int (nI 6)] (sk_w P n s I J R) Q ↔ Q (sk_w P n s I J R) (some (va_rf none)) := by
  rw [em_X7_substitutionAt]
  simp (disch := omega) only [K_X7_substitutionAt, lk_X7_substitutionAt, XI, Nat.reduceAdd, Nat.reduceEqDiff, not_false_eq_true, nI_T1, nI_T0, true_and, and_true, WC, WV, WU, sk_pool kq, sk_pool ka, hq, ha, v0, nI_lt0S, nI_leS, if_false, Nat.le_refl, if_true]
  exact Iff.rfl
def sRow (Ue : Nat → Value) (u : Nat → Option Nat) (a k : Nat) : Nat → Value := fun j => if a ≤ j ∧ j < k then va_rf (u (j + 1)) else Ue j
theorem sRow_s (Ue : Nat → Value) (u : Nat → Option Nat) {a k : Nat} (h : a ≤ k) : va_up (sRow Ue u a k) k (va_rf (u (k + 1))) = sRow Ue u a (k + 1) := by
  funext j
  unfold va_up sRow
  by_cases e : j = k
  · rw [if_pos e, if_pos (by omega), e]
  · rw [if_neg e]
    by_cases e2 : a ≤ j ∧ j < k
    · rw [if_pos e2, if_pos (by omega)]
    · rw [if_neg e2, if_neg (by omega)]
theorem X7_drop_l {q e : Nat} {V Ue : Nat → Value} {u : Nat → Option Nat} (kq : sk_kn q = none) (hq : P q = some (6, 5, V)) (v0 : V 2 = .ref e) (ke : sk_kn e = none) {U0 : Nat → Value} (he : P e = some (19, 6, U0)) (h0 : ¬ e = 0) (hu : ∀ j, j < 6 → Ue j = va_rf (u j)) (h6 : u 6 = none) (ho : ∀ r x, u r = some x → sk_kn x = none ∧ ∃ c, P x = some c ∧ c.1 = 7) {a : Nat} : ∀ (m k : Nat), k + m = 6 → a ≤ k → rs_X (d + 1) yX7_dropSubstitution 30 [some (.ref q), some (.int (nI a)), some (.int (nI 6))] [] (sk_w (va_up P e (some (19, 6, sRow Ue u a 6))) n s I J R) Q →
    rs_X (d + 1) yX7_dropSubstitution 6 [some (.ref q), some (.int (nI a)), some (.int (nI k))] [] (sk_w (va_up P e (some (19, 6, sRow Ue u a k))) n s I J R) Q := by
  intro m
  induction m with
  | zero =>
    intro k hk hak h
    have : k = 6 := by omega
    subst this
    rw [g_X7_dropSubstitution_6]
    simp (disch := omega) only [g_X7_dropSubstitution_7, g_X7_dropSubstitution_9, g_X7_dropSubstitution_12, g_X7_dropSubstitution_13, g_X7_dropSubstitution_14, g_X7_dropSubstitution_15, g_X7_dropSubstitution_16, g_X7_dropSubstitution_17, g_X7_dropSubstitution_18, g_X7_dropSubstitution_21, g_X7_dropSubstitution_24, g_X7_dropSubstitution_27, lk_X7_dropSubstitution, XI, Nat.reduceAdd, Nat.reduceEqDiff, not_false_eq_true, nI_T1, nI_T0, true_and, and_true, WC, WV, WU, nI_leS, Nat.le_refl, if_true]
    exact h
  | succ m ih =>
    intro k hk hak h
    have q2 : va_up P e (some (19, 6, sRow Ue u a k)) q = some (6, 5, V) := by
      rw [vu_ne]
      · exact hq
      · intro z; rw [z, he] at hq; cases hq
    have o2 : ∀ x, u (k + 1) = some x → sk_kn x = none ∧ ∃ c, va_up P e (some (19, 6, sRow Ue u a k)) x = some c ∧ c.1 = 7 := by
      intro x ex
      obtain ⟨z1, c, z2, z3⟩ := ho _ x ex
      refine ⟨z1, c, ?_, z3⟩
      rw [vu_ne]
      · exact z2
      · intro z; rw [z, he] at z2; cases z2; cases z3
    rw [g_X7_dropSubstitution_6]
    have kk : rs_isK ((sk_w (va_up P e (some (19, 6, sRow Ue u a k))) n s I J R).1 q) 6 ↔ True := by rw [sk_pool kq, q2]; exact rs_isK_s _ _ _
    by_cases e5 : k + 1 = 6
    · simp (disch := omega) only [g_X7_dropSubstitution_7, g_X7_dropSubstitution_9, g_X7_dropSubstitution_12, g_X7_dropSubstitution_13, g_X7_dropSubstitution_14, g_X7_dropSubstitution_15, g_X7_dropSubstitution_16, g_X7_dropSubstitution_17, g_X7_dropSubstitution_18, lk_X7_dropSubstitution, XI, Nat.reduceAdd, Nat.reduceEqDiff, not_false_eq_true, nI_T1, nI_T0, true_and, and_true, WC, WV, WU, nI_leS, nI_addS, kk, e5, r_substitutionAt_6 n s I J R _ _ kq q2 v0 ke (vu_eq _ _ _)]
      rw [if_neg (by omega)]
      have eu : (none : Option Nat) = u (k + 1) := by rw [e5, h6]
      rw [eu]
      simp (disch := omega) only [g_X7_dropSubstitution_21, g_X7_dropSubstitution_24, g_X7_dropSubstitution_27, lk_X7_dropSubstitution, XI, Nat.reduceAdd, Nat.reduceEqDiff, not_false_eq_true, nI_T1, nI_T0, true_and, and_true, WC, WV, WU, nI_addS, kk, r_putSubstitution n s I J R _ _ kq q2 v0 ke (vu_eq _ _ _) h0 (show k < 6 by omega) o2, vu_vu, sRow_s Ue u hak]
      exact ih (k + 1) (by omega) (by omega) h
    · have hv : sRow Ue u a k (k + 1) = va_rf (u (k + 1)) := by
        unfold sRow
        rw [if_neg (by omega)]
        exact hu _ (by omega)
      simp (disch := omega) only [g_X7_dropSubstitution_7, g_X7_dropSubstitution_9, g_X7_dropSubstitution_12, g_X7_dropSubstitution_13, g_X7_dropSubstitution_14, g_X7_dropSubstitution_15, g_X7_dropSubstitution_16, g_X7_dropSubstitution_17, g_X7_dropSubstitution_18, g_X7_dropSubstitution_21, g_X7_dropSubstitution_24, g_X7_dropSubstitution_27, lk_X7_dropSubstitution, XI, Nat.reduceAdd, Nat.reduceEqDiff, not_false_eq_true, nI_T1, nI_T0, true_and, and_true, WC, WV, WU, nI_leS, nI_addS, kk, r_substitutionAt n s I J R _ _ kq q2 v0 ke (vu_eq _ _ _) (show k + 1 < 6 by omega) hv, r_putSubstitution n s I J R _ _ kq q2 v0 ke (vu_eq _ _ _) h0 (show k < 6 by omega) o2, vu_vu, sRow_s Ue u hak]
      rw [if_neg (by omega)]
      exact ih (k + 1) (by omega) (by omega) h
theorem p_drop {q a c e : Nat} {V Ua Uc Ue : Nat → Value} {D : Dt} (hD : D.ok) (h : oSt P n q a c e V Ua Uc Ue D) (h0 : ¬ e = 0) {i : Nat} (hi : i < 6) (hQ : ∀ P' U', oSt P' n q a c e V Ua Uc U' (D.setS (D.sb.eraseIdx i)) → (∀ j, ¬ j = e → P' j = P j) → Q (sk_w P' n s I J R) none) : rs_XM (d + 1) yX7_dropSubstitution [.ref q, .int (nI i)] (sk_w P n s I J R) Q := by
  obtain ⟨h1, h2, h3, h4, v0, v1, v2, h5, h6, h7, h8, h9, h10⟩ := id h
  have hl := hD.2.2.1
  have hk : 17 ≤ ((19, 6, Ue) : rs_C).1 ∨ ((19, 6, Ue) : rs_C).1 = 15 ∨ ((19, 6, Ue) : rs_C).1 = 6 := Or.inl (show 17 ≤ 19 by decide)
  have hu : ∀ j, j < 6 → Ue j = va_rf ((fun j => if j < 6 then vOf (Ue j) else none) j) := by
    intro j hj
    dsimp only
    rw [if_pos hj]
    cases hz : D.sb[j]? with
    | none => rw [h9 j hj hz]; rfl
    | some Z =>
      obtain ⟨x, hx, -⟩ := h10 j Z hj hz
      rw [hx]; rfl
  have ho : ∀ r x, (fun j => if j < 6 then vOf (Ue j) else none) r = some x → sk_kn x = none ∧ ∃ c, P x = some c ∧ c.1 = 7 := by
    intro r x hx
    dsimp only at hx
    split at hx
    · rename_i hr
      cases hz : D.sb[r]? with
      | none => rw [h9 r hr hz] at hx; cases hx
      | some Z =>
        obtain ⟨x2, hx2, V2, ⟨b1, b2, b3⟩, _⟩ := h10 r Z hr hz
        rw [hx2] at hx
        cases hx
        exact ⟨b2, _, b3, rfl⟩
    · cases hx
  have e0 : va_up P e (some (19, 6, sRow Ue (fun j => if j < 6 then vOf (Ue j) else none) i i)) = P := vu_id _ _ _ (by
    rw [h4.2.2]
    congr 3
    funext j
    unfold sRow
    rw [if_neg (by omega)])
  rw [em_X7_dropSubstitution]
  have emx : (if nI i < nI 0 then nI 0 else nI i) = nI i := by rw [if_neg (by rw [nI_ltS (by omega) (by decide)]; omega)]
  simp (disch := omega) only [g_X7_dropSubstitution_0, g_X7_dropSubstitution_1, g_X7_dropSubstitution_2, g_X7_dropSubstitution_5, lk_X7_dropSubstitution, XI, Nat.reduceAdd, Nat.reduceEqDiff, not_false_eq_true, nI_T1, nI_T0, true_and, and_true, WC, WV, WU, emx]
  have hl2 := X7_drop_l (P := P) n s I J R d Q (Ue := Ue) (u := fun j => if j < 6 then vOf (Ue j) else none) h1.2.1 h1.2.2 v2 h4.2.1 h4.2.2 h0 hu rfl ho (a := i) (6 - i) i (by omega) (Nat.le_refl i)
  rw [e0] at hl2
  refine hl2 ?_
  simp (disch := omega) only [g_X7_dropSubstitution_30, lk_X7_dropSubstitution, XI, Nat.reduceAdd, Nat.reduceEqDiff, not_false_eq_true, nI_T1, nI_T0, true_and, and_true, WC, WV, WU]
  refine hQ _ (sRow Ue (fun j => if j < 6 then vOf (Ue j) else none) i 6) ⟨cP_k h4.2.2 _ (show ¬ 6 = 19 by decide) h1, cP_k h4.2.2 _ (show ¬ 17 = 19 by decide) h2, cP_k h4.2.2 _ (show ¬ 15 = 19 by decide) h3, ⟨h4.1, h4.2.1, vu_eq _ _ _⟩, v0, v1, v2, h5, h6, ?_, ?_, ?_, ?_⟩ (fun j hj => vu_ne _ _ hj)
  · intro r X hr hz
    obtain ⟨y, hy, cy⟩ := h7 r X hr hz
    exact ⟨y, hy, cRc_k h4.2.2 _ hk cy⟩
  · intro j hj
    obtain ⟨y, hy, cy⟩ := h8 j hj
    exact ⟨y, hy, cIg_k h4.2.2 _ hk cy⟩
  · intro k hk2 ht
    have ht : (D.sb.eraseIdx i)[k]? = none := ht
    rw [List.getElem?_eraseIdx] at ht
    unfold sRow
    by_cases e2 : k < i
    · rw [if_pos e2] at ht
      rw [if_neg (by omega)]
      exact h9 k hk2 ht
    · rw [if_neg e2] at ht
      rw [if_pos (by omega)]
      dsimp only
      by_cases e3 : k + 1 < 6
      · rw [if_pos e3, h9 _ e3 ht]
        rfl
      · rw [if_neg e3]
        rfl
  · intro k t hk2 ht
    have ht : (D.sb.eraseIdx i)[k]? = some t := ht
    rw [List.getElem?_eraseIdx] at ht
    unfold sRow
    by_cases e2 : k < i
    · rw [if_pos e2] at ht
      rw [if_neg (by omega)]
      obtain ⟨x, hx, cx⟩ := h10 k t hk2 ht
      exact ⟨x, hx, cSb_k h4.2.2 _ hk cx⟩
    · rw [if_neg e2] at ht
      have e3 : k + 1 < 6 := by
        have := (List.getElem?_eq_some_iff.mp ht).1
        omega
      rw [if_pos (by omega)]
      dsimp only
      obtain ⟨x, hx, cx⟩ := h10 (k + 1) t e3 ht
      rw [if_pos e3, hx]
      exact ⟨x, rfl, cSb_k h4.2.2 _ hk cx⟩
end
section
variable {D : Dt} {Ds : Option Dt} {L : List Dt} {tp : List Nat} {rea : Int32}
theorem erase_len (l : List Sb) {i : Nat} (h : i < l.length) : (l.eraseIdx i).length = l.length - 1 := List.length_eraseIdx_of_lt h
theorem X12_rsub_l (P : Nat → Option rs_C) (n s : Nat) (I : Nat → Nat → Int32) (J : Nat → Nat → Int64) (R : Nat → Nat → Option Nat) (d : Nat) (Q : rs_H → Option Value → Prop) {a len : Nat} (hl : len < 6) (ha : a ≤ len) (h408 : I 62 408 = nI len) : ∀ (j m : Nat), m + j = 6 * (len - a) → rs_X d yX12_removeSubstitution 85 [some (.ref 61), some (.int (nI a)), some (.int (nI (409 + 6 * a + 6 * (len - a))))] [] (sk_w P n s (cpU I 62 (409 + 6 * a) (409 + 6 * a + 6 * (len - a)) fun j => I 62 (j + 6)) J R) Q →
    rs_X d yX12_removeSubstitution 45 [some (.ref 61), some (.int (nI a)), some (.int (nI (409 + 6 * a + m)))] [] (sk_w P n s (cpU I 62 (409 + 6 * a) (409 + 6 * a + m) fun j => I 62 (j + 6)) J R) Q := by
  intro j
  induction j with
  | zero =>
    intro m hm h
    have hm2 : m = 6 * (len - a) := by omega
    subst hm2
    rw [g_X12_removeSubstitution_45]
    simp (disch := omega) only [g_X12_removeSubstitution_46, g_X12_removeSubstitution_49, g_X12_removeSubstitution_51, g_X12_removeSubstitution_52, g_X12_removeSubstitution_55, g_X12_removeSubstitution_58, g_X12_removeSubstitution_59, g_X12_removeSubstitution_60, g_X12_removeSubstitution_61, g_X12_removeSubstitution_64, g_X12_removeSubstitution_65, g_X12_removeSubstitution_68, g_X12_removeSubstitution_69, g_X12_removeSubstitution_70, g_X12_removeSubstitution_73, g_X12_removeSubstitution_74, g_X12_removeSubstitution_76, g_X12_removeSubstitution_77, g_X12_removeSubstitution_78, g_X12_removeSubstitution_79, g_X12_removeSubstitution_82, lk_X12_removeSubstitution, XI, Nat.reduceAdd, Nat.reduceEqDiff, not_false_eq_true, nI_T1, nI_T0, true_and, and_true, WC, WV, WU, nI_cl, rs_in_t, cpU_out, h408, nI_mulS, nI_addS, nI_leS]
    rw [if_pos (by omega)]
    exact h
  | succ j ih =>
    intro m hm h
    rw [g_X12_removeSubstitution_45]
    simp (disch := omega) only [g_X12_removeSubstitution_46, g_X12_removeSubstitution_49, g_X12_removeSubstitution_51, g_X12_removeSubstitution_52, g_X12_removeSubstitution_55, g_X12_removeSubstitution_58, g_X12_removeSubstitution_59, g_X12_removeSubstitution_60, g_X12_removeSubstitution_61, g_X12_removeSubstitution_64, g_X12_removeSubstitution_65, g_X12_removeSubstitution_68, g_X12_removeSubstitution_69, g_X12_removeSubstitution_70, g_X12_removeSubstitution_73, g_X12_removeSubstitution_74, g_X12_removeSubstitution_76, g_X12_removeSubstitution_77, g_X12_removeSubstitution_78, g_X12_removeSubstitution_79, g_X12_removeSubstitution_82, lk_X12_removeSubstitution, XI, Nat.reduceAdd, Nat.reduceEqDiff, not_false_eq_true, nI_T1, nI_T0, true_and, and_true, WC, WV, WU, nI_cl, rs_in_t, cpU_out, h408, nI_mulS, nI_addS, nI_leS]
    rw [if_neg (by omega), cpU_s I 62 (409 + 6 * a) (409 + 6 * a + m) (fun j => I 62 (j + 6)) (Nat.le_add_right _ _) rfl]
    exact ih (m + 1) (by omega) h
theorem b_removeSubstitution (hS : SOk D Ds L tp) (x0 : Int32) : BC yX11_removeSubstitution yX12_removeSubstitution [.int x0] D Ds L tp rea := by
  have hl := hS.1.2.2.1
  have e408 : ∀ I : Nat → Nat → Int32, mDt (I 62) D → I 62 408 = nI D.sb.length := fun I h => h.2.2.1
  by_cases c0 : ∃ k, k < D.sb.length ∧ x0 = nI k
  · obtain ⟨k, hk, rfl⟩ := c0
    have hk6 : k < 6 := by omega
    have hs : D.sb[k]? = some D.sb[k] := List.getElem?_eq_getElem hk
    have hin : nI 0 ≤ nI k ∧ nI k ≤ nI D.sb.length - nI 1 := (in_len (by omega) (nI k)).mpr ⟨k, hk, rfl⟩
    have hin2 : nI 0 ≤ nI k ∧ nI k ≤ nI (D.sb.length - 1) := (nI_within (by decide) (by omega)).mpr ⟨k, Nat.zero_le k, by omega, rfl⟩
    have hlen := erase_len D.sb hk
    have hD' : (D.setS (D.sb.eraseIdx k)).ok := by
      refine Dt.setS_ok hS.1 (by omega) ?_
      intro j t hj
      rw [List.getElem?_eraseIdx] at hj
      split at hj
      · exact hS.1.2.2.2.1 _ t hj
      · exact hS.1.2.2.2.1 _ t hj
    refine ⟨D.setS (D.sb.eraseIdx k), Ds, nxL L D, tp, rea, .int (nI (D.sb.length - 1)), nxL_ok hS hD', fun d P n s I J R Q h hQ => ?_, fun d P n s I J R Q g8 h hQ => ?_, Or.inl ⟨_, rfl⟩⟩
    · obtain ⟨q, hR, hq⟩ := h.2.1
      have h84 := h.1
      obtain ⟨y, hy, cy⟩ := g_substitutionAt_s hq hk6 hs
      rw [em_X11_removeSubstitution]
      simp (disch := omega) only [g_X11_removeSubstitution_0, g_X11_removeSubstitution_1, g_X11_removeSubstitution_4, g_X11_removeSubstitution_5, g_X11_removeSubstitution_8, g_X11_removeSubstitution_11, g_X11_removeSubstitution_12, g_X11_removeSubstitution_13, g_X11_removeSubstitution_14, g_X11_removeSubstitution_17, lk_X11_removeSubstitution, XI, Nat.reduceAdd, Nat.reduceEqDiff, not_false_eq_true, nI_T1, nI_T0, true_and, and_true, WC, WV, WU, rs_b_0, rs_b_ok2, true_or, or_true, Classical.not_not, not_true_eq_false, if_true, if_false, reduceCtorEq, hR, va_rf, k_St P n s I J R hq, cy]
      refine s_X7_copy n s I J R (d + 57) _ h84 hq ?_
      intro P1 V Ua Uc Ue o1 p1
      simp (disch := omega) only [g_X11_removeSubstitution_20, g_X11_removeSubstitution_21, g_X11_removeSubstitution_22, g_X11_removeSubstitution_23, lk_X11_removeSubstitution, XI, Nat.reduceAdd, Nat.reduceEqDiff, not_false_eq_true, nI_T1, nI_T0, true_and, and_true, WC, WV, WU, k_oSt (n + 4) _ I J R o1]
      refine p_drop (n + 4) _ I J R (d + 58) _ hS.1 o1 (by omega) hk6 ?_
      intro P2 U2 o2 p2
      have hP2 : ∀ j, j < n → P2 j = P j := fun j hj => by rw [p2 j (by omega)]; exact p1 j hj
      simp (disch := omega) only [g_X11_removeSubstitution_26, g_X11_removeSubstitution_27, g_X11_removeSubstitution_28, lk_X11_removeSubstitution, XI, Nat.reduceAdd, Nat.reduceEqDiff, not_false_eq_true, nI_T1, nI_T0, true_and, and_true, WC, WV, WU]
      have hc2 := cSt_o.mpr ⟨_, _, _, _, _, _, _, o2⟩
      refine s_commit (n + 4) _ I J R _ _ hS h hP2 (by omega) hc2 ?_
      intro I' R' h' f'
      have e1 : (D.setS (D.sb.eraseIdx k)).sb.length = D.sb.length - 1 := hlen
      simp (disch := omega) only [g_X11_removeSubstitution_31, g_X11_removeSubstitution_32, g_X11_removeSubstitution_35, lk_X11_removeSubstitution, XI, Nat.reduceAdd, Nat.reduceEqDiff, not_false_eq_true, nI_T1, nI_T0, true_and, and_true, WC, WV, WU, k_St _ _ _ _ _ _ hc2, s_scount _ _ _ _ _ _ _ hc2 hD', e1]
      exact hQ _ _ _ I' J R' h' f' (fC_r J) (by omega) (by omega)
    · have hL := hS.2.2.1
      have k62 : ∀ j, kpI I L.length 62 j = I 62 j := fun j => kpI_ne I _ (by omega) (by decide)
      rw [em_X12_removeSubstitution]
      simp (disch := omega) only [g_X12_removeSubstitution_0, g_X12_removeSubstitution_1, g_X12_removeSubstitution_2, g_X12_removeSubstitution_3, g_X12_removeSubstitution_6, g_X12_removeSubstitution_9, g_X12_removeSubstitution_10, g_X12_removeSubstitution_11, g_X12_removeSubstitution_12, g_X12_removeSubstitution_15, g_X12_removeSubstitution_18, g_X12_removeSubstitution_19, g_X12_removeSubstitution_20, g_X12_removeSubstitution_21, g_X12_removeSubstitution_24, g_X12_removeSubstitution_25, g_X12_removeSubstitution_28, g_X12_removeSubstitution_31, g_X12_removeSubstitution_32, g_X12_removeSubstitution_33, g_X12_removeSubstitution_34, g_X12_removeSubstitution_35, g_X12_removeSubstitution_36, g_X12_removeSubstitution_39, g_X12_removeSubstitution_41, g_X12_removeSubstitution_42, g_X12_removeSubstitution_43, g_X12_removeSubstitution_44, lk_X12_removeSubstitution, XI, Nat.reduceAdd, Nat.reduceEqDiff, not_false_eq_true, nI_T1, nI_T0, true_and, and_true, WC, WV, WU, rs_b_0, rs_b_ok2, true_or, or_true, Classical.not_not, not_true_eq_false, if_true, if_false, reduceCtorEq, s_X12_in, nI_cl, rs_in_t, e408 I h.1, hin2, s_X12_keep _ P n s I J R _ hL h.2.2.1, k62, nI_subS, nI_mulS, nI_addS]
      generalize hI1 : rs_u2 (kpI I L.length) 62 408 (nI (D.sb.length - 1)) = I1
      have i1 : ∀ j, ¬ j = 408 → I1 62 j = I 62 j := fun j hj => by rw [← hI1, rs_u2_ne _ _ (by omega)]; exact k62 j
      have i408 : I1 62 408 = nI (D.sb.length - 1) := by rw [← hI1, rs_u2_eq]
      have hl2 := X12_rsub_l P n s I1 J R (d + 60) Q (a := k) (len := D.sb.length - 1) (by omega) (by omega) i408 (6 * (D.sb.length - 1 - k)) 0 (Nat.zero_add _)
      rw [show 409 + 6 * k + 0 = 409 + 6 * k from rfl, cpU_0] at hl2
      refine hl2 ?_
      generalize hI2 : (cpU I1 62 (409 + 6 * k) (409 + 6 * k + 6 * (D.sb.length - 1 - k)) fun j => I1 62 (j + 6)) = I2
      have i2 : ∀ j, ¬ j = 408 → (j < 409 + 6 * k ∨ 409 + 6 * (D.sb.length - 1) ≤ j) → I2 62 j = I 62 j := fun j h1 h2 => by rw [← hI2, cpU_out _ _ _ _ _ (by omega)]; exact i1 j h1
      have i3 : ∀ j, 409 + 6 * k ≤ j → j < 409 + 6 * (D.sb.length - 1) → I2 62 j = I 62 (j + 6) := fun j h1 h2 => by rw [← hI2, cpU_in _ _ _ _ _ h1 (by omega)]; exact i1 (j + 6) (by omega)
      have i4 : I2 62 408 = nI (D.sb.length - 1) := by rw [← hI2, cpU_out _ _ _ _ _ (by omega)]; exact i408
      simp (disch := omega) only [g_X12_removeSubstitution_85, g_X12_removeSubstitution_86, g_X12_removeSubstitution_89, g_X12_removeSubstitution_92, g_X12_removeSubstitution_93, lk_X12_removeSubstitution, XI, Nat.reduceAdd, Nat.reduceEqDiff, not_false_eq_true, nI_T1, nI_T0, true_and, and_true, WC, WV, WU, nI_cl, rs_in_t, i4]
      have hne : ∀ a2 j, ¬ a2 = 62 → I2 a2 j = kpI I L.length a2 j := fun a2 j h1 => by rw [← hI2, cpU_ne _ _ _ _ _ _ h1, ← hI1, rs_u2_ne _ _ (fun z => h1 z.1)]
      refine hQ I2 J (RI_keep hS h (mDt_S hS.1 (fun j hj => i2 j (by omega) (by omega)) (by rw [hlen]; exact i4) ?_ h.1) (fun q j h1 h2 => hne q j h1)) (fun q j hq => by rw [hne q j (by omega)]; exact kpI_R I _ q j hq) (fR_r J)
      intro j t hj
      have hjl := (List.getElem?_eq_some_iff.mp hj).1
      rw [hlen] at hjl
      rw [List.getElem?_eraseIdx] at hj
      by_cases e2 : j < k
      · rw [if_pos e2] at hj
        exact mSb_c (fun x h1 h2 => i2 x (by omega) (by omega)) (h.1.2.2.2.1 j t hj)
      · rw [if_neg e2] at hj
        obtain ⟨m1, m2, m3, m4, m5, m6⟩ := h.1.2.2.2.1 (j + 1) t hj
        refine ⟨?_, ?_, ?_, ?_, ?_, ?_⟩
        · rw [i3 _ (by omega) (by omega), show 409 + 6 * j + 6 = 409 + 6 * (j + 1) by omega]; exact m1
        · rw [i3 _ (by omega) (by omega), show 409 + 6 * j + 1 + 6 = 409 + 6 * (j + 1) + 1 by omega]; exact m2
        · rw [i3 _ (by omega) (by omega), show 409 + 6 * j + 2 + 6 = 409 + 6 * (j + 1) + 2 by omega]; exact m3
        · rw [i3 _ (by omega) (by omega), show 409 + 6 * j + 3 + 6 = 409 + 6 * (j + 1) + 3 by omega]; exact m4
        · rw [i3 _ (by omega) (by omega), show 409 + 6 * j + 4 + 6 = 409 + 6 * (j + 1) + 4 by omega]; exact m5
        · rw [i3 _ (by omega) (by omega), show 409 + 6 * j + 5 + 6 = 409 + 6 * (j + 1) + 5 by omega]; exact m6
  · refine BC_same hS (.int (-1)) (Or.inl ⟨_, rfl⟩) (fun d P n s I J R Q h hQ => ?_) (fun d P n s I J R Q h hQ => ?_)
    · obtain ⟨q, hR, hq⟩ := h.2.1
      rw [em_X11_removeSubstitution]
      simp (disch := omega) only [g_X11_removeSubstitution_0, g_X11_removeSubstitution_1, g_X11_removeSubstitution_4, g_X11_removeSubstitution_5, g_X11_removeSubstitution_8, g_X11_removeSubstitution_11, g_X11_removeSubstitution_12, lk_X11_removeSubstitution, XI, Nat.reduceAdd, Nat.reduceEqDiff, not_false_eq_true, nI_T1, nI_T0, true_and, and_true, WC, WV, WU, rs_b_0, rs_b_ok2, true_or, or_true, Classical.not_not, not_true_eq_false, if_true, if_false, reduceCtorEq, hR, va_rf, k_St P n s _ _ R hq, g_substitutionAt_o n s _ _ R _ _ hq hS.1 c0]
      exact hQ
    · have hin : ¬ (nI 0 ≤ x0 ∧ x0 ≤ nI D.sb.length - nI 1) := fun z => c0 ((in_len (by omega) x0).mp z)
      rw [em_X12_removeSubstitution]
      simp (disch := omega) only [g_X12_removeSubstitution_0, g_X12_removeSubstitution_1, g_X12_removeSubstitution_2, g_X12_removeSubstitution_3, g_X12_removeSubstitution_6, g_X12_removeSubstitution_9, g_X12_removeSubstitution_10, g_X12_removeSubstitution_11, g_X12_removeSubstitution_12, g_X12_removeSubstitution_15, g_X12_removeSubstitution_18, g_X12_removeSubstitution_19, lk_X12_removeSubstitution, XI, Nat.reduceAdd, Nat.reduceEqDiff, not_false_eq_true, nI_T1, nI_T0, true_and, and_true, WC, WV, WU, rs_b_0, rs_b_ok2, true_or, or_true, Classical.not_not, not_true_eq_false, if_true, if_false, reduceCtorEq, nI_cl, rs_in_t, e408 I h.1, hin, s_X12_in]
      exact hQ
end
