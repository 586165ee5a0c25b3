/-! an ingredient of the class is copied and changed -/
def oIg (P : Nat → Option rs_C) (b q a c : Nat) (V Ua Uc : Nat → Value) (g : Ig) : Prop := cP P b q (0, 8, V) ∧ cP P b a (12, 3, Ua) ∧ cP P b c (12, 3, Uc) ∧ ¬ a = c ∧ V 0 = .long (pkO g.de) ∧ V 1 = .long (pkO g.we) ∧ V 2 = .int (nI g.con) ∧ V 3 = .int (nI g.tra) ∧ V 4 = .int (nI g.stk) ∧ V 5 = .int (nI g.pk.length) ∧ V 6 = .ref a ∧ V 7 = .ref c ∧ ∀ (k : Nat) (p : Nat × Nat), g.pk[k]? = some p → Ua k = .int (nI p.1) ∧ Uc k = .int (nI p.2)
theorem cIg_o {P : Nat → Option rs_C} {b q : Nat} {g : Ig} : cIg P b q g ↔ ∃ V a c Ua Uc, oIg P b q a c V Ua Uc g := Iff.rfl
def Ig.setDe (g : Ig) (o : Option (Nat × Nat)) : Ig := Ig.mk o g.we g.con g.tra g.stk g.pk
def Ig.setWe (g : Ig) (o : Option (Nat × Nat)) : Ig := Ig.mk g.de o g.con g.tra g.stk g.pk
def Ig.setAl (g : Ig) (c t : Nat) : Ig := Ig.mk g.de g.we c t g.stk g.pk
def Ig.setSt (g : Ig) (k : Nat) : Ig := Ig.mk g.de g.we g.con g.tra k g.pk
def Ig.setPk (g : Ig) (l : List (Nat × Nat)) : Ig := Ig.mk g.de g.we g.con g.tra g.stk l
theorem Ig.setDe_ok {g : Ig} (h : g.ok) {o : Option (Nat × Nat)} (ho : okO o) : (g.setDe o).ok := ⟨ho, h.2⟩
theorem Ig.setWe_ok {g : Ig} (h : g.ok) {o : Option (Nat × Nat)} (ho : okO o) : (g.setWe o).ok := ⟨h.1, ho, h.2.2⟩
theorem Ig.setAl_ok {g : Ig} (h : g.ok) {c t : Nat} (hc : c ≤ 255) (ht : t ≤ 255) : (g.setAl c t).ok := ⟨h.1, h.2.1, hc, ht, h.2.2.2.2⟩
theorem Ig.setSt_ok {g : Ig} (h : g.ok) {k : Nat} (hk : k ≤ 999999) : (g.setSt k).ok := ⟨h.1, h.2.1, h.2.2.1, h.2.2.2.1, hk, h.2.2.2.2.2⟩
theorem Ig.setPk_ok {g : Ig} (h : g.ok) {l : List (Nat × Nat)} (h1 : l.length ≤ 3) (h2 : ∀ (k : Nat) (p : Nat × Nat), l[k]? = some p → 1 ≤ p.1 ∧ p.1 ≤ 2000 ∧ p.2 ≤ 999) : (g.setPk l).ok := ⟨h.1, h.2.1, h.2.2.1, h.2.2.2.1, h.2.2.2.2.1, h1, h2⟩
/-- one field of an ingredient is laid anew -/
theorem oIg_set {P : Nat → Option rs_C} {b q a c : Nat} {V Ua Uc : Nat → Value} {g g' : Ig} (h : oIg P b q a c V Ua Uc g) (j : Nat) (v : Value) (hj : ¬ j = 5) (h6 : ¬ j = 6) (h7 : ¬ j = 7) (hp : g'.pk = g.pk) (h0 : va_up V j v 0 = .long (pkO g'.de)) (h1 : va_up V j v 1 = .long (pkO g'.we)) (h2 : va_up V j v 2 = .int (nI g'.con)) (h3 : va_up V j v 3 = .int (nI g'.tra)) (h4 : va_up V j v 4 = .int (nI g'.stk)) : oIg (va_up P q (some (0, 8, va_up V j v))) b q a c (va_up V j v) Ua Uc g' := by
  obtain ⟨x1, x2, x3, x4, v0, v1, v2, v3, v4, v5, v6, v7, x5⟩ := h
  refine ⟨⟨x1.1, x1.2.1, vu_eq _ _ _⟩, cP_k x1.2.2 _ (show ¬ 12 = 0 by decide) x2, cP_k x1.2.2 _ (show ¬ 12 = 0 by decide) x3, x4, h0, h1, h2, h3, h4, ?_, ?_, ?_, ?_⟩
  · rw [vu_ne _ _ (fun z => hj z.symm), hp]; exact v5
  · rw [vu_ne _ _ (fun z => h6 z.symm)]; exact v6
  · rw [vu_ne _ _ (fun z => h7 z.symm)]; exact v7
  · rw [hp]; exact x5
section
variable {P : Nat → Option rs_C} (n s : Nat) (I : Nat → Nat → Int32) (J : Nat → Nat → Int64) (R : Nat → Nat → Option Nat) (d : Nat) (Q : rs_H → Option Value → Prop)
theorem s_addPack {q a c : Nat} {V Ua Uc : Nat → Value} {g : Ig} (h : oIg P n q a c V Ua Uc g) (ha0 : ¬ a = 0) (hc0 : ¬ c = 0) (hl : g.pk.length < 3) (x y : Nat) (hQ : ∀ P' V' Ua' Uc', oIg P' n q a c V' Ua' Uc' (g.setPk (g.pk ++ [(x, y)])) → (∀ i, ¬ i = q → ¬ i = a → ¬ i = c → P' i = P i) → Q (sk_w P' n s I J R) none) : rs_XM d yX1_addPack [.ref q, .int (nI x), .int (nI y)] (sk_w P n s I J R) Q := by
  obtain ⟨x1, x2, x3, x4, v0, v1, v2, v3, v4, v5, v6, v7, x5⟩ := id h
  have eqa : ¬ q = a := o_ne x1 x2 (show ¬ 0 = 12 by decide)
  have eqc : ¬ q = c := o_ne x1 x3 (show ¬ 0 = 12 by decide)
  have x4' : ¬ c = a := fun z => x4 z.symm
  rw [em_X1_addPack]
  simp (disch := first | omega | assumption) only [K_X1_addPack, lk_X1_addPack, XI, Nat.reduceAdd, Nat.reduceEqDiff, not_false_eq_true, nI_T1, nI_T0, true_and, and_true, WC, WV, WU, sk_pool x1.2.1, sk_pool x2.2.1, sk_pool x3.2.1, sk_up_p x1.2.1, sk_up_p x2.2.1, sk_up_p x3.2.1, x1.2.2, x2.2.2, x3.2.2, v5, v6, v7, nI_lt0S, nI_leS, nI_cl, rs_in_t, if_false, vu_eq, vu_ne, nI_addS, ha0, hc0]
  rw [if_neg (by omega), if_neg (by omega)]
  refine hQ _ (va_up V 5 (.int (nI (g.pk.length + 1)))) (va_up Ua g.pk.length (.int (nI x))) (va_up Uc g.pk.length (.int (nI y))) ⟨⟨x1.1, x1.2.1, vu_eq _ _ _⟩, ⟨x2.1, x2.2.1, ?_⟩, ⟨x3.1, x3.2.1, ?_⟩, x4, ?_, ?_, ?_, ?_, ?_, ?_, ?_, ?_, ?_⟩ ?_
  · rw [vu_ne _ _ (fun z => eqa z.symm), vu_ne _ _ x4, vu_eq]
  · rw [vu_ne _ _ (fun z => eqc z.symm), vu_eq]
  · rw [vu_ne _ _ (by decide)]; exact v0
  · rw [vu_ne _ _ (by decide)]; exact v1
  · rw [vu_ne _ _ (by decide)]; exact v2
  · rw [vu_ne _ _ (by decide)]; exact v3
  · rw [vu_ne _ _ (by decide)]; exact v4
  · rw [vu_eq]
    show _ = Value.int (nI (g.pk ++ [(x, y)]).length)
    rw [List.length_append, List.length_singleton]
  · rw [vu_ne _ _ (by decide)]; exact v6
  · rw [vu_ne _ _ (by decide)]; exact v7
  · intro k p hk
    have hk : (g.pk ++ [(x, y)])[k]? = some p := hk
    by_cases e : k < g.pk.length
    · rw [List.getElem?_append_left e] at hk
      rw [vu_ne _ _ (by omega), vu_ne _ _ (by omega)]
      exact x5 k p hk
    · have hk2 := (List.getElem?_eq_some_iff.mp hk).1
      rw [List.length_append, List.length_singleton] at hk2
      have e2 : k = g.pk.length := by omega
      rw [List.getElem?_append_right (by omega), e2, Nat.sub_self] at hk
      cases hk
      rw [e2, vu_eq, vu_eq]
      exact ⟨rfl, rfl⟩
  · intro i h1 h2 h3
    rw [vu_ne _ _ h1, vu_ne _ _ h3, vu_ne _ _ h2]
theorem s_X1_init {q : Nat} {V : Nat → Value} (h84 : 84 ≤ n) (hqn : q < n) (kq : sk_kn q = none) (hq : P q = some (0, 8, V))
    (hQ : ∀ P' V' Ua Uc, oIg P' (n + 2) q n (n + 1) V' Ua Uc (Ig.mk none none 0 0 0 []) → (∀ i, i < n → ¬ i = q → P' i = P i) → Q (sk_w P' (n + 2) (s + 6) I J R) none) : rs_XM d yX1_init [.ref q] (sk_w P n s I J R) Q := by
  rw [em_X1_init]
  simp (disch := omega) only [K_X1_init, lk_X1_init, XI, Nat.reduceAdd, Nat.reduceEqDiff, not_false_eq_true, nI_T1, nI_T0, true_and, and_true, WC, WV, WU, sk_new, sk_nx, sk_pool kq, sk_up_p kq, vu_eq, vu_ne, hq, nI_cl, nI_lt0S, not_false_eq_true, Nat.reduceLeDiff]
  refine hQ _ _ (fun _ => .int 0) (fun _ => .int 0) ⟨⟨by omega, kq, vu_eq _ _ _⟩, ⟨by omega, sk_kn_ge n h84, ?_⟩, ⟨by omega, sk_kn_ge (n + 1) (by omega), ?_⟩, by omega, ?_, ?_, ?_, ?_, ?_, ?_, ?_, ?_, ?_⟩ ?_
  · rw [vu_ne _ _ (by omega), vu_ne _ _ (by omega), vu_ne _ _ (by omega), vu_eq]
    rfl
  · rw [vu_ne _ _ (by omega), vu_eq]
    rfl
  · rfl
  · rfl
  · rfl
  · rfl
  · rfl
  · rfl
  · rfl
  · rfl
  · intro k p hk
    cases hk
  · intro i hi hiq
    simp (disch := omega) only [vu_ne]
theorem oIg_m {P' : Nat → Option rs_C} {b b' q a c : Nat} {V Ua Uc : Nat → Value} {g : Ig} (hP : ∀ i, i = q ∨ i = a ∨ i = c → P' i = P i) (hb : b ≤ b') (h : oIg P b q a c V Ua Uc g) : oIg P' b' q a c V Ua Uc g := by
  obtain ⟨x1, x2, x3, x4⟩ := h
  exact ⟨⟨by have := x1.1; omega, x1.2.1, by rw [hP q (Or.inl rfl)]; exact x1.2.2⟩, ⟨by have := x2.1; omega, x2.2.1, by rw [hP a (Or.inr (Or.inl rfl))]; exact x2.2.2⟩, ⟨by have := x3.1; omega, x3.2.1, by rw [hP c (Or.inr (Or.inr rfl))]; exact x3.2.2⟩, x4⟩
theorem X1_copy_l {b q z a c : Nat} {g : Ig} (hz : b ≤ z) (hza : b ≤ a) (hzc : b ≤ c) (ha0 : ¬ a = 0) (hc0 : ¬ c = 0) (hg : g.ok) : ∀ (m k : Nat) (P : Nat → Option rs_C) (V Ua Uc : Nat → Value), k + m = g.pk.length → cIg P b q g → oIg P n z a c V Ua Uc (g.setPk (g.pk.take k)) → (∀ P' V' Ua' Uc', oIg P' n z a c V' Ua' Uc' g → (∀ i, i < b → P' i = P i) → Q (sk_w P' n s I J R) (some (.ref z))) →
    rs_X (d + 1) yX1_copy 50 [some (.ref q), some (.ref z), some (.int (nI k))] [] (sk_w P n s I J R) Q := by
  intro m
  induction m with
  | zero =>
    intro k P V Ua Uc hk hq ho hQ
    obtain ⟨Vq, aq, cq, Uaq, Ucq, q1, q2, q3, q4, w0, w1, w2, w3, w4, w5, w6, w7, q5⟩ := hq
    have hl := hg.2.2.2.2.2.1
    have e : g.setPk (g.pk.take k) = g := by
      rw [List.take_of_length_le (by omega)]
      rfl
    rw [e] at ho
    rw [g_X1_copy_50]
    simp (disch := omega) only [g_X1_copy_51, g_X1_copy_52, g_X1_copy_55, g_X1_copy_58, g_X1_copy_59, g_X1_copy_60, g_X1_copy_61, g_X1_copy_64, g_X1_copy_65, g_X1_copy_66, g_X1_copy_69, g_X1_copy_72, g_X1_copy_75, g_X1_copy_78, g_X1_copy_79, lk_X1_copy, XI, Nat.reduceAdd, Nat.reduceEqDiff, not_false_eq_true, nI_T1, nI_T0, true_and, and_true, WC, WV, WU, sk_cP n s I J R q1, w5, nI_leS]
    rw [if_pos (by omega)]
    exact hQ P V Ua Uc ho (fun _ _ => rfl)
  | succ m ih =>
    intro k P V Ua Uc hk hq ho hQ
    obtain ⟨Vq, aq, cq, Uaq, Ucq, q1, q2, q3, q4, w0, w1, w2, w3, w4, w5, w6, w7, q5⟩ := id hq
    have hl := hg.2.2.2.2.2.1
    have hs : g.pk[k]? = some g.pk[k] := List.getElem?_eq_getElem (by omega)
    have kz : rs_isK ((sk_w P n s I J R).1 z) 0 ↔ True := by rw [sk_cP n s I J R ho.1]; exact rs_isK_s _ _ _
    rw [g_X1_copy_50]
    simp (disch := omega) only [g_X1_copy_51, g_X1_copy_52, g_X1_copy_55, g_X1_copy_58, g_X1_copy_59, g_X1_copy_60, g_X1_copy_61, g_X1_copy_64, g_X1_copy_65, g_X1_copy_66, g_X1_copy_69, lk_X1_copy, XI, Nat.reduceAdd, Nat.reduceEqDiff, not_false_eq_true, nI_T1, nI_T0, true_and, and_true, WC, WV, WU, sk_cP n s I J R q1, w5, nI_leS, k_Ig P n s I J R hq, kz, g_sizeAt n s I J R _ _ hq (show k < 3 by omega) hs, g_priceAt n s I J R _ _ hq (show k < 3 by omega) hs]
    rw [if_neg (by omega)]
    refine s_addPack n s I J R _ _ ho ha0 hc0 (by show (g.pk.take k).length < 3; rw [List.length_take]; omega) _ _ ?_
    intro P' V' Ua' Uc' ho' hP
    simp (disch := omega) only [g_X1_copy_72, g_X1_copy_75, lk_X1_copy, XI, Nat.reduceAdd, Nat.reduceEqDiff, not_false_eq_true, nI_T1, nI_T0, true_and, and_true, WC, WV, WU, nI_addS]
    have e : (g.setPk (g.pk.take k)).setPk ((g.setPk (g.pk.take k)).pk ++ [(g.pk[k].1, g.pk[k].2)]) = g.setPk (g.pk.take (k + 1)) := by
      show g.setPk (g.pk.take k ++ [g.pk[k]]) = _
      rw [List.take_append_getElem (by omega)]
    rw [e] at ho'
    have hP2 : ∀ i, i < b → P' i = P i := fun i hi => hP i (by omega) (by omega) (by omega)
    refine ih (k + 1) P' V' Ua' Uc' (by omega) (cIg_m hP2 (Nat.le_refl b) hq) ho' ?_
    intro P2 V2 Ua2 Uc2 h2 hP3
    exact hQ P2 V2 Ua2 Uc2 h2 (fun i hi => (hP3 i hi).trans (hP2 i hi))
theorem s_X1_copy {q : Nat} {g : Ig} (h84 : 84 ≤ n) (hq : cIg P n q g) (hg : g.ok) (hQ : ∀ P' V Ua Uc, oIg P' (n + 3) n (n + 1) (n + 2) V Ua Uc g → (∀ i, i < n → P' i = P i) → Q (sk_w P' (n + 3) (s + 14) I J R) (some (.ref n))) : rs_XM (d + 2) yX1_copy [.ref q] (sk_w P n s I J R) Q := by
  have kn : sk_kn n = none := sk_kn_ge n h84
  rw [em_X1_copy]
  simp (disch := omega) only [g_X1_copy_0, g_X1_copy_3, g_X1_copy_4, lk_X1_copy, XI, Nat.reduceAdd, Nat.reduceEqDiff, not_false_eq_true, nI_T1, nI_T0, true_and, and_true, WC, WV, WU, sk_new, sk_nx]
  refine s_X1_init (n + 1) _ I J R _ _ (by omega) (Nat.lt_succ_self n) kn (vu_eq _ _ _) ?_
  intro P1 V1 Ua1 Uc1 o1 p1
  have p2 : ∀ i, i < n → P1 i = P i := fun i hi => by rw [p1 i (by omega) (by omega), vu_ne _ _ (by omega)]
  have hq1 := cIg_m p2 (Nat.le_refl n) hq
  obtain ⟨Vq, aq, cq, Uaq, Ucq, q1, q2, q3, q4, w0, w1, w2, w3, w4, w5, w6, w7, q5⟩ := id hq1
  have q1n := q1.1
  have z3 := o1.1.2.2
  simp (disch := omega) only [g_X1_copy_7, g_X1_copy_8, g_X1_copy_9, g_X1_copy_10, g_X1_copy_13, g_X1_copy_16, g_X1_copy_17, g_X1_copy_18, g_X1_copy_21, g_X1_copy_24, g_X1_copy_25, g_X1_copy_26, g_X1_copy_29, g_X1_copy_32, g_X1_copy_33, g_X1_copy_34, g_X1_copy_37, g_X1_copy_40, g_X1_copy_41, g_X1_copy_42, g_X1_copy_45, g_X1_copy_48, g_X1_copy_49, lk_X1_copy, XI, Nat.reduceAdd, Nat.reduceEqDiff, not_false_eq_true, nI_T1, nI_T0, true_and, and_true, WC, WV, WU, sk_pool q1.2.1, sk_pool kn, sk_up_p kn, q1.2.2, vu_eq, vu_ne, z3, w0, w1, w2, w3, w4]
  refine X1_copy_l (n + 1 + 2) _ I J R (d + 1) Q (b := n) (q := q) (z := n) (a := n + 1) (c := n + 1 + 1) (g := g) (Nat.le_refl n) (by omega) (by omega) (by omega) (by omega) hg g.pk.length 0 _ (va_up (va_up (va_up (va_up (va_up V1 0 (.long (pkO g.de))) 1 (.long (pkO g.we))) 2 (.int (nI g.con))) 3 (.int (nI g.tra))) 4 (.int (nI g.stk))) Ua1 Uc1 (Nat.zero_add _) ?_ ?_ ?_
  · refine cIg_m (fun i hi => ?_) (Nat.le_refl n) hq1
    simp (disch := omega) only [vu_ne]
  · obtain ⟨x1, x2, x3, x4, v0, v1, v2, v3, v4, v5, v6, v7, x5⟩ := o1
    refine ⟨⟨x1.1, kn, vu_eq _ _ _⟩, ⟨x2.1, x2.2.1, ?_⟩, ⟨x3.1, x3.2.1, ?_⟩, x4, rfl, rfl, rfl, rfl, rfl, ?_, ?_, ?_, ?_⟩
    · simp (disch := omega) only [vu_ne]; exact x2.2.2
    · simp (disch := omega) only [vu_ne]; exact x3.2.2
    · exact v5
    · exact v6
    · exact v7
    · intro k p hk
      have hk : ([] : List (Nat × Nat))[k]? = some p := hk
      cases hk
  · intro P' V' Ua' Uc' ho hP
    have hQ2 := hQ P' V' Ua' Uc' ho (fun i hi => by
      rw [hP i hi]
      simp (disch := omega) only [vu_ne]
      exact p2 i hi)
    rw [show n + 3 = n + 1 + 2 by omega, show s + 14 = s + 8 + 6 by omega] at hQ2
    exact hQ2
theorem s_replaceIngredient {P0 : Nat → Option rs_C} {n0 x i : Nat} {g : Ig} {D : Dt} {Ds : Option Dt} {L : List Dt} {tp : List Nat} {rea : Int32} (hS : SOk D Ds L tp) (h : CI P0 n0 I R D Ds L tp rea) (hP : ∀ j, j < n0 → P j = P0 j) (hn : n0 ≤ n) (hi : i < 12) (hx : cIg P n x g) (hQ : ∀ P' I' R', CI P' (n + 4) I' R' (D.setI i g) Ds (nxL L D) tp rea → fC I I' → (∀ j, j < n → P' j = P j) → Q (sk_w P' (n + 4) (s + 31) I' J R') none) : rs_XM (d + 3) yX11_replaceIngredient [.ref 1, .int (nI i), .ref x] (sk_w P n s I J R) Q := by
  obtain ⟨q, hq1, hq2⟩ := h.2.1
  have h84 : 84 ≤ n := Nat.le_trans h.1 hn
  have hq3 := cSt_m hP hn hq2
  rw [em_X11_replaceIngredient]
  simp (disch := omega) only [g_X11_replaceIngredient_0, g_X11_replaceIngredient_1, g_X11_replaceIngredient_4, lk_X11_replaceIngredient, XI, Nat.reduceAdd, Nat.reduceEqDiff, not_false_eq_true, nI_T1, nI_T0, true_and, and_true, WC, WV, WU, hq1, va_rf, k_St P n s I J R hq3]
  refine s_X7_copy n s I J R d _ h84 hq3 ?_
  intro P1 V Ua Uc Ue o1 p1
  have hx1 := cIg_m p1 (show n ≤ n + 4 by omega) hx
  simp (disch := omega) only [g_X11_replaceIngredient_7, g_X11_replaceIngredient_8, g_X11_replaceIngredient_9, g_X11_replaceIngredient_10, g_X11_replaceIngredient_11, lk_X11_replaceIngredient, XI, Nat.reduceAdd, Nat.reduceEqDiff, not_false_eq_true, nI_T1, nI_T0, true_and, and_true, WC, WV, WU, k_oSt (n + 4) _ I J R o1]
  refine p_ingredient (n + 4) _ I J R _ _ o1 (by omega) hi hx1 ?_
  intro o2
  have e12 : rs_isK ((sk_w P1 (n + 4) (s + 31) I J R).1 1) 10 ↔ True := ⟨fun _ => trivial, fun _ => rfl⟩
  simp (disch := omega) only [g_X11_replaceIngredient_14, g_X11_replaceIngredient_15, g_X11_replaceIngredient_16, lk_X11_replaceIngredient, XI, Nat.reduceAdd, Nat.reduceEqDiff, not_false_eq_true, nI_T1, nI_T0, true_and, and_true, WC, WV, WU]
  have hP2 : ∀ j, j < n → va_up P1 (n + 2) (some (15, 12, va_up Uc i (.ref x))) j = P j := fun j hj => by rw [vu_ne _ _ (by omega)]; exact p1 j hj
  refine s_commit (n + 4) _ I J R _ _ hS h (fun j hj => by rw [hP2 j (by omega)]; exact hP j hj) (by omega) (cSt_o.mpr ⟨_, _, _, _, _, _, _, o2⟩) ?_
  intro I' R' h' f'
  simp (disch := omega) only [g_X11_replaceIngredient_19, lk_X11_replaceIngredient, XI, Nat.reduceAdd, Nat.reduceEqDiff, not_false_eq_true, nI_T1, nI_T0, true_and, and_true, WC, WV, WU]
  exact hQ _ I' R' h' f' hP2
end
