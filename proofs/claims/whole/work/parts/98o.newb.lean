/-! the start: the class's object is made, all that it holds -/
section
variable {C : Nat → Option rs_C} (d : Nat) (Q : rs_H → Option Value → Prop)
theorem wsT_8 {q : Nat} (h : sk_fx q 0 = some (q + 1)) (h2 : ∀ j, sk_fx q (j + 1) = none) : wsT (va_up (fun j => defaultValue (rs_ty 8 j)) 0 (.ref (q + 1))) 8 q := by
  intro j
  match j with
  | 0 =>
    show Value.ref (q + 1) = va_rf (sk_fx q 0)
    rw [h]
    rfl
  | j + 1 =>
    show Value.null = va_rf (sk_fx q (j + 1))
    rw [h2]
    rfl
theorem ini_X3 (s : Nat) (hq : C 45 = some (2, 7, fun j => defaultValue (rs_ty 2 j))) (hQ : ∀ C', wsC C' 45 2 7 → wsC C' 46 8 1 → wsC C' 47 13 12 → wsC C' 48 8 1 → wsC C' 49 13 12 → wsC C' 50 8 1 → wsC C' 51 13 12 → wsC C' 52 8 1 → wsC C' 53 13 6 → wsC C' 54 8 1 → wsC C' 55 13 8 → (∀ i, i < 45 → C' i = C i) → Q (C', 56, s + 55) none) : rs_XM (d + 1) yX3_init [.ref 45] (C, 46, s) Q := by
  rw [em_X3_init]
  simp (disch := omega) only [g_X3_init_0, g_X3_init_1, g_X3_init_4, g_X3_init_5, g_X3_init_8, g_X3_init_9, g_X3_init_11, lk_X3_init, XI, Nat.reduceAdd, Nat.reduceEqDiff, not_false_eq_true, nI_T1, nI_T0, true_and, and_true, rw_new, rw_up, vu_eq, vu_ne, hq]
  refine ini_X9 47 _ d _ (vu_eq _ _ _) (by omega) (by omega) ?_
  intro C0 U0 a0 b0 c0 f0
  have e0 : C0 45 = _ := (f0 45 (by decide) (by decide)).trans ((vu_ne _ _ (by decide)).trans hq)
  simp (disch := omega) only [g_X3_init_14, g_X3_init_17, g_X3_init_18, g_X3_init_21, g_X3_init_22, g_X3_init_24, lk_X3_init, XI, Nat.reduceAdd, Nat.reduceEqDiff, not_false_eq_true, nI_T1, nI_T0, true_and, and_true, rw_new, rw_up, vu_eq, vu_ne, e0]
  refine ini_X9 49 _ d _ (vu_eq _ _ _) (by omega) (by omega) ?_
  intro C1 U1 a1 b1 c1 f1
  have e1 : C1 45 = _ := (f1 45 (by decide) (by decide)).trans ((vu_ne _ _ (by decide)).trans (vu_eq _ _ _))
  simp (disch := omega) only [g_X3_init_27, g_X3_init_30, g_X3_init_31, g_X3_init_34, g_X3_init_35, g_X3_init_37, lk_X3_init, XI, Nat.reduceAdd, Nat.reduceEqDiff, not_false_eq_true, nI_T1, nI_T0, true_and, and_true, rw_new, rw_up, vu_eq, vu_ne, e1]
  refine ini_X9 51 _ d _ (vu_eq _ _ _) (by omega) (by omega) ?_
  intro C2 U2 a2 b2 c2 f2
  have e2 : C2 45 = _ := (f2 45 (by decide) (by decide)).trans ((vu_ne _ _ (by decide)).trans (vu_eq _ _ _))
  simp (disch := omega) only [g_X3_init_40, g_X3_init_43, g_X3_init_44, g_X3_init_47, g_X3_init_48, g_X3_init_50, lk_X3_init, XI, Nat.reduceAdd, Nat.reduceEqDiff, not_false_eq_true, nI_T1, nI_T0, true_and, and_true, rw_new, rw_up, vu_eq, vu_ne, e2]
  refine ini_X9 53 _ d _ (vu_eq _ _ _) (by omega) (by omega) ?_
  intro C3 U3 a3 b3 c3 f3
  have e3 : C3 45 = _ := (f3 45 (by decide) (by decide)).trans ((vu_ne _ _ (by decide)).trans (vu_eq _ _ _))
  simp (disch := omega) only [g_X3_init_53, g_X3_init_56, g_X3_init_57, g_X3_init_60, g_X3_init_61, g_X3_init_63, lk_X3_init, XI, Nat.reduceAdd, Nat.reduceEqDiff, not_false_eq_true, nI_T1, nI_T0, true_and, and_true, rw_new, rw_up, vu_eq, vu_ne, e3]
  refine ini_X9 55 _ d _ (vu_eq _ _ _) (by omega) (by omega) ?_
  intro C4 U4 a4 b4 c4 f4
  have e4 : C4 45 = _ := (f4 45 (by decide) (by decide)).trans ((vu_ne _ _ (by decide)).trans (vu_eq _ _ _))
  simp (disch := omega) only [g_X3_init_66, g_X3_init_69, g_X3_init_70, g_X3_init_71, g_X3_init_74, g_X3_init_75, g_X3_init_76, g_X3_init_79, lk_X3_init, XI, Nat.reduceAdd, Nat.reduceEqDiff, not_false_eq_true, nI_T1, nI_T0, true_and, and_true, rw_up, vu_eq, vu_ne, e4]
  have fr : ∀ i, i < 45 → C4 i = C i := fun i hi => by
    rw [f4 i (by omega) (by omega), vu_ne _ _ (by omega), vu_ne _ _ (by omega), f3 i (by omega) (by omega), vu_ne _ _ (by omega), vu_ne _ _ (by omega), f2 i (by omega) (by omega), vu_ne _ _ (by omega), vu_ne _ _ (by omega), f1 i (by omega) (by omega), vu_ne _ _ (by omega), vu_ne _ _ (by omega), f0 i (by omega) (by omega), vu_ne _ _ (by omega)]
  have t0 : ∀ z, z < 48 → ¬ z = 45 → C1 z = C0 z := fun z h1 h2 => by rw [f1 z (by omega) (by omega), vu_ne _ _ (by omega), vu_ne _ _ (by omega)]
  have t1 : ∀ z, z < 50 → ¬ z = 45 → C2 z = C1 z := fun z h1 h2 => by rw [f2 z (by omega) (by omega), vu_ne _ _ (by omega), vu_ne _ _ (by omega)]
  have t2 : ∀ z, z < 52 → ¬ z = 45 → C3 z = C2 z := fun z h1 h2 => by rw [f3 z (by omega) (by omega), vu_ne _ _ (by omega), vu_ne _ _ (by omega)]
  have t3 : ∀ z, z < 54 → ¬ z = 45 → C4 z = C3 z := fun z h1 h2 => by rw [f4 z (by omega) (by omega), vu_ne _ _ (by omega), vu_ne _ _ (by omega)]
  have a0' := (t3 46 (by decide) (by decide)).trans ((t2 46 (by decide) (by decide)).trans ((t1 46 (by decide) (by decide)).trans ((t0 46 (by decide) (by decide)).trans a0)))
  have b0' := (t3 47 (by decide) (by decide)).trans ((t2 47 (by decide) (by decide)).trans ((t1 47 (by decide) (by decide)).trans ((t0 47 (by decide) (by decide)).trans b0)))
  have a1' := (t3 48 (by decide) (by decide)).trans ((t2 48 (by decide) (by decide)).trans ((t1 48 (by decide) (by decide)).trans a1))
  have b1' := (t3 49 (by decide) (by decide)).trans ((t2 49 (by decide) (by decide)).trans ((t1 49 (by decide) (by decide)).trans b1))
  have a2' := (t3 50 (by decide) (by decide)).trans ((t2 50 (by decide) (by decide)).trans a2)
  have b2' := (t3 51 (by decide) (by decide)).trans ((t2 51 (by decide) (by decide)).trans b2)
  have a3' := (t3 52 (by decide) (by decide)).trans a3
  have b3' := (t3 53 (by decide) (by decide)).trans b3
  have a4' := a4
  have b4' := b4
  have v4 : ∀ (A B E : rs_C) (z : Nat), ¬ z = 45 → va_up (va_up (va_up C4 45 (some A)) 45 (some B)) 45 (some E) z = C4 z := fun A B E z hz => by rw [vu_ne _ _ hz, vu_ne _ _ hz, vu_ne _ _ hz]
  refine hQ _ ⟨_, vu_eq _ _ _, ?_⟩ ⟨_, (v4 _ _ _ _ (by decide)).trans a0', wsT_8 rfl (fun _ => rfl)⟩ ⟨_, (v4 _ _ _ _ (by decide)).trans b0', wsT_j c0⟩ ⟨_, (v4 _ _ _ _ (by decide)).trans a1', wsT_8 rfl (fun _ => rfl)⟩ ⟨_, (v4 _ _ _ _ (by decide)).trans b1', wsT_j c1⟩ ⟨_, (v4 _ _ _ _ (by decide)).trans a2', wsT_8 rfl (fun _ => rfl)⟩ ⟨_, (v4 _ _ _ _ (by decide)).trans b2', wsT_j c2⟩ ⟨_, (v4 _ _ _ _ (by decide)).trans a3', wsT_8 rfl (fun _ => rfl)⟩ ⟨_, (v4 _ _ _ _ (by decide)).trans b3', wsT_j c3⟩ ⟨_, (v4 _ _ _ _ (by decide)).trans a4', wsT_8 rfl (fun _ => rfl)⟩ ⟨_, (v4 _ _ _ _ (by decide)).trans b4', wsT_j c4⟩ (fun i hi => (v4 _ _ _ _ (by omega)).trans (fr i hi))
  intro j
  match j with
  | 0 => exact rfl
  | 1 => exact rfl
  | 2 => exact rfl
  | 3 => exact rfl
  | 4 => exact rfl
  | 5 => exact ⟨_, rfl⟩
  | 6 => exact ⟨_, rfl⟩
  | _ + 7 => exact ⟨_, rfl⟩
def wsX (C : Nat → Option rs_C) : Prop := (∃ V, C 1 = some (10, 9, V) ∧ wsT V 10 1 ∧ V 0 = .ref 2 ∧ V 1 = .null ∧ V 3 = .int (nI 0) ∧ V 4 = .int (-5)) ∧ wsC C 42 18 8 ∧ (∃ V, C 43 = some (9, 3, V) ∧ wsT V 9 43 ∧ V 1 = .int (nI 0)) ∧ wsC C 44 12 60 ∧ wsC C 45 2 7 ∧ wsC C 46 8 1 ∧ wsC C 47 13 12 ∧ wsC C 48 8 1 ∧ wsC C 49 13 12 ∧ wsC C 50 8 1 ∧ wsC C 51 13 12 ∧ wsC C 52 8 1 ∧ wsC C 53 13 6 ∧ wsC C 54 8 1 ∧ wsC C 55 13 8 ∧ wsC C 56 5 10 ∧ wsC C 57 13 2048 ∧ wsC C 58 12 12 ∧ wsC C 59 3 3 ∧ wsC C 60 12 9
theorem ini_X11 (s : Nat) (h1 : C 1 = some (10, 9, fun j => defaultValue (rs_ty 10 j))) (hQ : ∀ C' s', s' ≤ s + 10000 → cSt C' 42 2 D0 → wsX C' → Q (C', 61, s') none) : rs_XM (d + 2) yX11_init [.ref 1] (C, 2, s) Q := by
  rw [em_X11_init]
  simp (disch := omega) only [g_X11_init_0, g_X11_init_1, g_X11_init_4, g_X11_init_5, lk_X11_init, XI, Nat.reduceAdd, Nat.reduceEqDiff, not_false_eq_true, nI_T1, nI_T0, true_and, and_true]
  refine ini_X7 d _ s ?_
  intro C1 hst p1
  have e1 := (p1 1 (by decide)).trans h1
  simp (disch := omega) only [g_X11_init_8, g_X11_init_11, g_X11_init_12, g_X11_init_13, g_X11_init_16, g_X11_init_17, g_X11_init_19, g_X11_init_22, g_X11_init_25, g_X11_init_26, g_X11_init_27, g_X11_init_30, g_X11_init_31, g_X11_init_33, g_X11_init_36, g_X11_init_37, g_X11_init_40, g_X11_init_41, g_X11_init_44, g_X11_init_47, g_X11_init_48, g_X11_init_51, g_X11_init_52, lk_X11_init, XI, Nat.reduceAdd, Nat.reduceEqDiff, not_false_eq_true, nI_T1, nI_T0, true_and, and_true, em_X10_init, K_X10_init, lk_X10_init, rw_new, rw_up, vu_eq, vu_ne, e1, nI_cl, nI_lt0S, Nat.reduceLeDiff]
  refine ini_X3 d _ _ (vu_eq _ _ _) ?_
  intro C2 y45 y46 y47 y48 y49 y50 y51 y52 y53 y54 y55 p2
  have e2 : C2 1 = _ := (p2 1 (by decide)).trans ((vu_ne _ _ (by decide)).trans (vu_eq _ _ _))
  have g42 : wsC C2 42 18 8 := ⟨_, (p2 42 (by decide)).trans rfl, fun j => ⟨none, rfl⟩⟩
  have g43 : ∃ V, C2 43 = some (9, 3, V) ∧ wsT V 9 43 ∧ V 1 = .int (nI 0) := by
    refine ⟨_, (p2 43 (by decide)).trans rfl, ?_, rfl⟩
    intro j
    match j with
    | 0 => exact rfl
    | 1 => exact ⟨_, rfl⟩
    | 2 => exact ⟨_, rfl⟩
    | _ + 3 => exact ⟨_, rfl⟩
  have g44 : wsC C2 44 12 60 := ⟨_, (p2 44 (by decide)).trans rfl, wsT_i (Or.inl rfl) (fun j => ⟨_, rfl⟩)⟩
  have q2 : ∀ i, 1 < i → i < 42 → C2 i = C1 i := fun i h1 h2 => by
    rw [p2 i (by omega)]
    simp (disch := omega) only [vu_ne]
  simp (disch := omega) only [g_X11_init_55, g_X11_init_58, g_X11_init_59, g_X11_init_62, g_X11_init_63, g_X11_init_66, g_X11_init_69, g_X11_init_70, g_X11_init_73, g_X11_init_74, g_X11_init_77, g_X11_init_80, lk_X11_init, XI, Nat.reduceAdd, Nat.reduceEqDiff, not_false_eq_true, nI_T1, nI_T0, true_and, and_true, em_X6_init, K_X6_init, lk_X6_init, em_X4_init, K_X4_init, lk_X4_init, rw_new, rw_up, vu_eq, vu_ne, e2, nI_cl, nI_lt0S, Nat.reduceLeDiff]
  refine hQ _ _ (by omega) (hst _ (fun i h1 h2 => ?_)) ⟨⟨_, vu_eq _ _ _, ?_, rfl, rfl, rfl, rfl⟩, wsC_f g42 rfl, ?_, wsC_f g44 rfl, wsC_f y45 rfl, wsC_f y46 rfl, wsC_f y47 rfl, wsC_f y48 rfl, wsC_f y49 rfl, wsC_f y50 rfl, wsC_f y51 rfl, wsC_f y52 rfl, wsC_f y53 rfl, wsC_f y54 rfl, wsC_f y55 rfl, ⟨_, rfl, ?_⟩, ⟨_, rfl, wsT_j (fun j => ⟨_, rfl⟩)⟩, ⟨_, rfl, wsT_i (Or.inl rfl) (fun j => ⟨_, rfl⟩)⟩, ⟨_, rfl, ?_⟩, ⟨_, rfl, wsT_i (Or.inl rfl) (fun j => ⟨_, rfl⟩)⟩⟩
  · rw [← q2 i h1 h2]
    simp (disch := omega) only [vu_ne]
  · intro j
    match j with
    | 0 => exact ⟨some 2, rfl⟩
    | 1 => exact ⟨none, rfl⟩
    | 2 => exact rfl
    | 3 => exact ⟨_, rfl⟩
    | 4 => exact ⟨_, rfl⟩
    | 5 => exact rfl
    | 6 => exact rfl
    | 7 => exact rfl
    | 8 => exact rfl
    | _ + 9 => exact rfl
  · obtain ⟨V, a1, a2, a3⟩ := g43
    exact ⟨V, a1, a2, a3⟩
  · intro j
    match j with
    | 0 => exact rfl
    | 1 => exact ⟨_, rfl⟩
    | 2 => exact ⟨_, rfl⟩
    | 3 => exact ⟨_, rfl⟩
    | 4 => exact rfl
    | 5 => exact ⟨_, rfl⟩
    | 6 => exact ⟨_, rfl⟩
    | 7 => exact ⟨_, rfl⟩
    | 8 => exact ⟨_, rfl⟩
    | 9 => exact ⟨_, rfl⟩
    | _ + 10 => exact ⟨_, rfl⟩
  · intro j
    match j with
    | 0 => exact rfl
    | 1 => exact ⟨_, rfl⟩
    | 2 => exact ⟨_, rfl⟩
    | _ + 3 => exact ⟨_, rfl⟩
end
