/-! a commit leaves all but the object's own cell -/
section
variable {P : Nat → Option rs_C} (n s : Nat) (I : Nat → Nat → Int32) (J : Nat → Nat → Int64) (R : Nat → Nat → Option Nat) (d : Nat) (Q : rs_H → Option Value → Prop)
theorem s_commit2 {P0 : Nat → Option rs_C} {n0 x : Nat} {D D' : Dt} {Ds : Option Dt} {L : List Dt} {tp : List Nat} {rea : Int32} (hS : SOk D Ds L tp) (h : CI P0 n0 I R D Ds L tp rea) (hP : ∀ i, i < n0 → P i = P0 i) (hn : n0 ≤ n) (hx : cSt P n x D') (hQ : ∀ I' R', CI P n I' R' D' Ds (nxL L D) tp rea → fC I I' → (∀ a j, ¬ a = 1 → I' a j = I a j) → Q (sk_w P n s I' J R') none) : rs_XM d yX11_commit [.ref 1, .ref x] (sk_w P n s I J R) Q := by
  obtain ⟨c1, ⟨q, hq1, hq2⟩, c3, c4, c5, c6, c7, c8⟩ := h
  have hq3 := cSt_m hP hn hq2
  have c5' : ∀ (k : Nat) (X : Dt), L[k]? = some X → ∃ q, R 42 k = some q ∧ cSt P n q X := by
    intro k X hk
    obtain ⟨y, hy, cy⟩ := c5 k X hk
    exact ⟨y, hy, cSt_m hP hn cy⟩
  have c3' : cSnap P n (R 1 1) Ds := by
    unfold cSnap at c3 ⊢
    cases Ds with
    | none => exact c3
    | some X =>
      obtain ⟨y, hy, cy⟩ := c3
      exact ⟨y, hy, cSt_m hP hn cy⟩
  have hL := hS.2.2.1
  have kq := k_St P n s I J R hq3
  have fin : ∀ (I' : Nat → Nat → Int32) (R' : Nat → Nat → Option Nat) (c : Nat), c = (if L.length = 8 then 7 else L.length) → fC I I' → (∀ j, ¬ j = 3 → I' 1 j = I 1 j) → (∀ a j, ¬ a = 1 → I' a j = I a j) → I' 1 3 = nI c → (∀ j, j < c → R' 42 j = R 42 (if L.length = 8 then j + 1 else j)) → R' 1 0 = R 1 0 → R' 1 1 = R 1 1 → ∀ z2, rs_X d yX11_commit 46 [some (.ref 1), some (.ref x), z2] [] (sk_w P n s I' J R') Q := by
    intro I' R' c hc fI' i1 i2 i3 r1 r2 r3 z2
    have hc8 : c < 8 := by rw [hc]; split <;> omega
    have hoa : ∀ R2, R2 1 0 = some q → rs_oa (sk_w P n s I' J R2) 18 (.ref q) := fun R2 _ => oa_rf (o := some q) (fun y hy => by
      cases hy
      obtain ⟨V, _, _, _, _, _, _, ⟨b1, b2, b3⟩, _⟩ := hq3
      exact ⟨_, by rw [sk_pool b2, b3], rfl⟩)
    have hR0 : R' 1 0 = some q := by rw [r2]; exact hq1
    simp (disch := omega) only [g_X11_commit_46, g_X11_commit_47, g_X11_commit_50, g_X11_commit_53, g_X11_commit_54, g_X11_commit_57, g_X11_commit_58, g_X11_commit_61, g_X11_commit_62, g_X11_commit_65, g_X11_commit_66, g_X11_commit_69, g_X11_commit_70, g_X11_commit_73, g_X11_commit_74, g_X11_commit_77, g_X11_commit_78, g_X11_commit_79, g_X11_commit_80, g_X11_commit_83, g_X11_commit_84, g_X11_commit_85, g_X11_commit_88, g_X11_commit_89, g_X11_commit_90, g_X11_commit_93, lk_X11_commit, XI, Nat.reduceAdd, Nat.reduceEqDiff, not_false_eq_true, nI_T1, nI_T0, true_and, and_true, WC, WV, WU, rs_b_0, rs_b_ok2, true_or, or_true, Classical.not_not, not_true_eq_false, if_true, if_false, reduceCtorEq, i3, nI_lt0S, nI_leS, nI_cl, rs_in_t, hR0, va_rf, hoa R' hR0, nI_addS]
    rw [if_neg (by omega)]
    refine hQ _ _ ⟨by omega, ⟨x, rs_u2_eq _ _ _ _, hx⟩, ?_, ?_, ?_, ?_, ?_, ?_⟩ (fC_u fI' (by decide)) (fun a j e => by rw [rs_u2_ne _ _ (fun z => e z.1)]; exact i2 a j e)
    · rw [rs_u2_ne _ _ (by omega), rs_u2_ne _ _ (by omega), r3]
      exact c3'
    · rw [rs_u2_eq, nxL_len D hL, hc]
    · intro k X hk
      rw [rs_u2_ne _ _ (by omega)]
      rcases nxL_get hL hk with ⟨e1, e2⟩ | ⟨e1, e2⟩
      · rw [← hc] at e1
        rw [e1, rs_u2_eq, e2]
        exact ⟨q, rfl, hq3⟩
      · rw [← hc] at e1
        rw [rs_u2_ne _ _ (by omega), r1 k e1]
        exact c5' _ X e2
    · rw [rs_u2_ne _ _ (by omega), i1 4 (by decide)]
      exact c6
    · rw [rs_u2_ne _ _ (by omega), i2 43 1 (by decide)]
      exact c7
    · intro k v hk
      rw [rs_u2_ne _ _ (by omega), i2 44 k (by decide)]
      exact c8 k v hk
  rw [em_X11_commit]
  by_cases e8 : L.length = 8
  · have kS : ∀ k, k < 8 → ∀ y, R 42 k = some y → ∃ c, (sk_w P n s I J R).1 y = some c ∧ c.1 = 6 := by
      intro k hk y hy
      obtain ⟨z, hz, V, _, _, _, _, _, _, ⟨b1, b2, b3⟩, _⟩ := c5' k L[k] (List.getElem?_eq_getElem (by omega))
      rw [hz] at hy
      cases hy
      exact ⟨_, by rw [sk_pool b2, b3], rfl⟩
    simp (disch := omega) only [g_X11_commit_0, g_X11_commit_1, g_X11_commit_4, g_X11_commit_6, g_X11_commit_9, g_X11_commit_10, lk_X11_commit, XI, Nat.reduceAdd, Nat.reduceEqDiff, not_false_eq_true, nI_T1, nI_T0, true_and, and_true, WC, WV, WU, c4, e8, nI_ltS, Nat.lt_irrefl, if_false]
    have e2 := cpU_0 R 42 0 fun j => R 42 (j + 1)
    have hl := X11_commit_l n s I J R d Q kS x 7 1 (Nat.le_refl 1) rfl
    rw [show 1 - 1 = 0 from rfl, e2] at hl
    refine hl ?_
    simp (disch := omega) only [g_X11_commit_40, g_X11_commit_41, g_X11_commit_43, lk_X11_commit, XI, Nat.reduceAdd, Nat.reduceEqDiff, not_false_eq_true, nI_T1, nI_T0, true_and, and_true, WC, WV, WU]
    exact fin _ _ 7 (by rw [if_pos e8]) (fC_u (fC_r I) (by decide)) (fun j hj => rs_u2_ne _ _ (fun z => hj z.2)) (fun a j ha => rs_u2_ne _ _ (fun z => ha z.1)) (rs_u2_eq _ _ _ _) (fun j hj => by rw [if_pos e8]; exact cpU_in _ _ _ _ _ (Nat.zero_le j) hj) (cpU_ne _ _ _ _ _ _ (by decide)) (cpU_ne _ _ _ _ _ _ (by decide)) _
  · simp (disch := omega) only [g_X11_commit_0, g_X11_commit_1, g_X11_commit_4, g_X11_commit_6, lk_X11_commit, XI, Nat.reduceAdd, Nat.reduceEqDiff, not_false_eq_true, nI_T1, nI_T0, true_and, and_true, WC, WV, WU, c4, nI_ltS]
    rw [if_pos (by omega)]
    exact fin I R L.length (by rw [if_neg e8]) (fC_r I) (fun _ _ => rfl) (fun _ _ _ => rfl) c4 (fun j hj => by rw [if_neg e8]) rfl rfl _
end
