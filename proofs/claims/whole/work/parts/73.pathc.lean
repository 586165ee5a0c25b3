/-! the class's walk for a path -/
theorem nI_12f : (nI 1 = nI 2) ↔ False := ⟨fun z => absurd z (by decide), fun z => z.elim⟩
section
variable {P : Nat → Option rs_C} {b q : Nat} {D : Dt} {a : Nat}
theorem bit_op {op r : Nat} {g : Nat} (h : (op ||| 2 ^ r).testBit g = true) : op.testBit g = true ∨ g = r := by
  rw [Nat.testBit_or, Bool.or_eq_true, Nat.testBit_two_pow, decide_eq_true_eq] at h
  rcases h with h | h
  · exact Or.inl h
  · exact Or.inr h.symm
theorem bit_in (op r : Nat) : (op ||| 2 ^ r).testBit r = true := by
  rw [Nat.testBit_or, Nat.testBit_two_pow, decide_eq_true rfl, Bool.or_true]
/-- an item of a recipe -/
theorem s_penter {m : Nat} (ih : PwC P b q D a m) {x : Nat} {t : It} (hq : cSt P b q D) (hx : cIt P b x t) (h12 : 12 ≤ t.so) {dep op : Nat} (d n s : Nat) (I : Nat → Nat → Int32) (J : Nat → Nat → Int64) (R : Nat → Nat → Option Nat) (Q : rs_H → Option Value → Prop)
    (hQ : rs_XM d yX4_walk [.ref 59, .ref q, .int (nI (t.so - 12)), .int (nI a), .int (nI op), .int (nI (dep + 1))] (sk_w P n s I J R) (fun w' v => rs_X (d + 1) yX4_enter 16 [some (.ref 59), some (.ref q), some (.ref x), some (.int (nI a)), some (.int (nI op)), some (.int (nI dep))] (rs_push v []) w' Q)) : rs_XM (d + 1) yX4_enter [.ref 59, .ref q, .ref x, .int (nI a), .int (nI op), .int (nI dep)] (sk_w P n s I J R) Q := by
  rw [em_X4_enter]
  simp (disch := omega) only [g_X4_enter_0, g_X4_enter_1, g_X4_enter_2, g_X4_enter_3, g_X4_enter_6, g_X4_enter_7, g_X4_enter_9, g_X4_enter_11, g_X4_enter_12, g_X4_enter_13, lk_X4_enter, XI, Nat.reduceAdd, Nat.reduceEqDiff, not_false_eq_true, nI_T1, nI_T0, true_and, and_true, WC, WV, WU, k_It P n s I J R hx, g_innerRecipe n s I J R _ _ hx h12, nI_addS]
  exact hQ
theorem X4_walk_l (hq : cSt P b q D) (hD : D.ok) (ha : a ≤ 7) {m : Nat} (ih : PwC P b q D a m) {r y i : Nat} {Z : Rc} (hr : r < 8) (hz : D.rc r = some Z) {U : Nat → Value} (hi : cP P b i (16, 6, U)) (un : ∀ k, k < 6 → Z.its[k]? = none → U k = .null) (us : ∀ k t, k < 6 → Z.its[k]? = some t → ∃ x, U k = .ref x ∧ cIt P b x t) {op dep : Nat} (hm : m + 1 + dep = 20) (hdep : dep < 8) (hop : op < 256) (hpc : pc8 op = dep) (hor : ¬ op.testBit r = true) (hpr : ∀ g, op.testBit g = true → ¬ D.rc g = none) {fin0 : Nat} (d n s : Nat) (J : Nat → Nat → Int64) (R : Nat → Nat → Option Nat) (Q : rs_H → Option Value → Prop) (hd : 2 * (9 - dep) + 4 ≤ d) :
    ∀ (l : List It) (k : Nat) (I : Nat → Nat → Int32) (fin : Nat) (F : List Nat) (z10 z11 : Option Value), Z.its.drop k = l → k ≤ 6 → FG D a fin F → (∀ g, fin0.testBit g = true → fin.testBit g = true) → (∀ g, fin.testBit g = true → ¬ (op ||| 2 ^ r).testBit g = true) → I 59 2 = nI fin → I 60 dep = nI r →
      (∀ (j : Nat) (t : It), j < k → Z.its[j]? = some t → (t.so < 12 → ¬ coB D a t.so = true) ∧ (12 ≤ t.so → D.rc (t.so - 12) = none ∨ fin.testBit (t.so - 12) = true)) →
      (∀ I' fin' F', (pwL D a (fun c => pw D a m (op ||| 2 ^ r) c) l).1 = 0 → FG D a fin' F' → (∀ g, fin0.testBit g = true → fin'.testBit g = true) → (∀ g, fin'.testBit g = true → ¬ op.testBit g = true) → fin'.testBit r = true → I' 59 2 = nI fin' → (∀ j, j < dep → I' 60 j = I 60 j) → pf I I' → Q (sk_w P n s I' J R) (some (.int (nI 0)))) →
      (∀ I', (pwL D a (fun c => pw D a m (op ||| 2 ^ r) c) l).1 = 1 → I' 59 1 = nI (dep + 1 + (pwL D a (fun c => pw D a m (op ||| 2 ^ r) c) l).2.length) → (∀ j, j < dep → I' 60 j = I 60 j) → I' 60 dep = nI r → (∀ (j v : Nat), (pwL D a (fun c => pw D a m (op ||| 2 ^ r) c) l).2[j]? = some v → I' 60 (dep + 1 + j) = nI v ∧ dep + 1 + j < 9) → pf I I' → Q (sk_w P n s I' J R) (some (.int (nI 1)))) →
      (∀ I', (pwL D a (fun c => pw D a m (op ||| 2 ^ r) c) l).1 = 2 → pf I I' → Q (sk_w P n s I' J R) (some (.int (nI 2)))) →
      rs_X (d + 1) yX4_walk 65 [some (.ref 59), some (.ref q), some (.int (nI r)), some (.int (nI a)), some (.int (nI op)), some (.int (nI dep)), some (.ref y), some (.ref i), some (.int (nI 6)), some (.int (nI k)), z10, z11] [] (sk_w P n s I J R) Q := by
  have hZ := (hD.1 r Z hz).2
  have hp8 := pow_lt8 hr
  have hopr := or_lt8 hop hp8
  have fin_end : ∀ (I : Nat → Nat → Int32) (fin : Nat) (F : List Nat) (l : rs_L) (z9 z10 z11 : Option Value), FG D a fin F → (∀ g, fin0.testBit g = true → fin.testBit g = true) → (∀ g, fin.testBit g = true → ¬ (op ||| 2 ^ r).testBit g = true) → I 59 2 = nI fin → (∀ (j : Nat) (t : It), Z.its[j]? = some t → (t.so < 12 → ¬ coB D a t.so = true) ∧ (12 ≤ t.so → D.rc (t.so - 12) = none ∨ fin.testBit (t.so - 12) = true)) →
      (∀ I' fin' F', FG D a fin' F' → (∀ g, fin0.testBit g = true → fin'.testBit g = true) → (∀ g, fin'.testBit g = true → ¬ op.testBit g = true) → fin'.testBit r = true → I' 59 2 = nI fin' → (∀ j, j < dep → I' 60 j = I 60 j) → pf I I' → Q (sk_w P n s I' J R) (some (.int (nI 0)))) → rs_X (d + 1) yX4_walk 140 [some (.ref 59), some (.ref q), some (.int (nI r)), some (.int (nI a)), some (.int (nI op)), some (.int (nI dep)), some (.ref y), some (.ref i), some (.int (nI 6)), z9, z10, z11] [] (sk_w P n s I J R) Q := by
    intro I fin F l z9 z10 z11 hF hf0 hdj h2 hit hQ0
    have hfin := hF.1
    have hnr : ¬ fin.testBit r = true := fun z => hdj r z (bit_in op r)
    simp (disch := omega) only [g_X4_walk_140, g_X4_walk_141, g_X4_walk_142, g_X4_walk_145, g_X4_walk_146, g_X4_walk_147, g_X4_walk_148, g_X4_walk_149, g_X4_walk_152, g_X4_walk_153, lk_X4_walk, XI, Nat.reduceAdd, Nat.reduceEqDiff, not_false_eq_true, nI_T1, nI_T0, true_and, and_true, WC, WV, WU, h2, bt_shl, Nat.one_mul, bt_or]
    refine hQ0 _ (fin ||| 2 ^ r) (F ++ [r]) (FG_s hF hr hnr hz hit) ?_ ?_ (bit_in fin r) (rs_u2_eq _ _ _ _) ?_ ?_
    · intro g hg
      rw [Nat.testBit_or, hf0 g hg]
      rfl
    · intro g hg z
      rcases bit_op hg with h | h
      · exact hdj g h (by rw [Nat.testBit_or, z]; rfl)
      · rw [h] at z
        exact hor z
    · intro j hj
      rw [rs_u2_ne _ _ (by omega)]
    · intro q j e1 e2
      rw [rs_u2_ne _ _ (by omega)]
  intro l
  induction l with
  | nil =>
    intro k I fin F z10 z11 hl hk hF hf0 hdj h2 h60 hit q0 q1 q2
    have hkl : Z.its.length ≤ k := List.drop_eq_nil_iff.mp hl
    have hn : Z.its[k]? = none := List.getElem?_eq_none hkl
    have hend := fin_end I fin F [] (some (.int (nI k)))
    have hit2 : ∀ (j : Nat) (t : It), Z.its[j]? = some t → (t.so < 12 → ¬ coB D a t.so = true) ∧ (12 ≤ t.so → D.rc (t.so - 12) = none ∨ fin.testBit (t.so - 12) = true) := fun j t hj => hit j t (by have := (List.getElem?_eq_some_iff.mp hj).1; omega) hj
    rw [g_X4_walk_65]
    by_cases h6 : k < 6
    · simp (disch := omega) only [g_X4_walk_67, g_X4_walk_69, g_X4_walk_72, g_X4_walk_74, g_X4_walk_76, g_X4_walk_77, g_X4_walk_79, g_X4_walk_81, g_X4_walk_84, lk_X4_walk, XI, Nat.reduceAdd, Nat.reduceEqDiff, not_false_eq_true, nI_T1, nI_T0, true_and, and_true, WC, WV, WU, nI_leS, sk_cP n s I J R hi, nI_cl, rs_in_t, un k h6 hn]
      rw [if_neg (by omega)]
      exact hend _ _ hF hf0 hdj h2 hit2 (fun I' fin' F' => q0 I' fin' F' rfl)
    · simp (disch := omega) only [g_X4_walk_67, g_X4_walk_69, lk_X4_walk, XI, Nat.reduceAdd, Nat.reduceEqDiff, not_false_eq_true, nI_T1, nI_T0, true_and, and_true, WC, WV, WU, nI_leS]
      rw [if_pos (by omega)]
      exact hend _ _ hF hf0 hdj h2 hit2 (fun I' fin' F' => q0 I' fin' F' rfl)
  | cons t ts ihl =>
    intro k I fin F z10 z11 hl hk hF hf0 hdj h2 h60 hit q0 q1 q2
    have hs : Z.its[k]? = some t := by
      have e : (Z.its.drop k)[0]? = some t := by rw [hl]; rfl
      rw [List.getElem?_drop] at e
      exact e
    have hts : Z.its.drop (k + 1) = ts := by
      have e := congrArg (List.drop 1) hl
      rw [List.drop_drop] at e
      exact e
    have h6 : k < 6 := by
      have h1 := hZ.2.1
      have h2 := (List.getElem?_eq_some_iff.mp hs).1
      omega
    obtain ⟨x, hx, cx⟩ := us k t h6 hs
    have ht := hZ.2.2.1 k t hs
    have hso := ht.2.2.2
    rw [pwL_c] at q0 q1 q2
    rw [g_X4_walk_65]
    simp (disch := omega) only [g_X4_walk_67, g_X4_walk_69, g_X4_walk_72, g_X4_walk_74, g_X4_walk_76, g_X4_walk_77, g_X4_walk_79, g_X4_walk_81, g_X4_walk_84, g_X4_walk_87, g_X4_walk_89, g_X4_walk_92, lk_X4_walk, XI, Nat.reduceAdd, Nat.reduceEqDiff, not_false_eq_true, nI_T1, nI_T0, true_and, and_true, WC, WV, WU, nI_leS, sk_cP n s I J R hi, nI_cl, rs_in_t, hx, k_It P n s I J R cx, g_isOfRecipe n s I J R _ _ cx ht, rs_b_0]
    rw [if_neg (by omega)]
    by_cases e : 12 ≤ t.so
    · rw [if_pos e] at q0 q1 q2
      rw [if_neg (fun z => z e)]
      simp (disch := omega) only [g_X4_walk_95, g_X4_walk_96, g_X4_walk_97, g_X4_walk_99, g_X4_walk_100, g_X4_walk_102, g_X4_walk_103, g_X4_walk_104, g_X4_walk_105, g_X4_walk_106, g_X4_walk_108, lk_X4_walk, XI, Nat.reduceAdd, Nat.reduceEqDiff, not_false_eq_true, nI_T1, nI_T0, true_and, and_true, WC, WV, WU, bt_shl, Nat.one_mul, bt_or]
      obtain ⟨d2, rfl⟩ : ∃ d2, d = d2 + 1 := ⟨d - 1, by omega⟩
      refine s_penter ih hq cx e d2 n s I J R _ ?_
      have hpc2 : pc8 (op ||| 2 ^ r) = dep + 1 := by rw [pc8_s op hop r hr hor, hpc]
      have hpr2 : ∀ g, (op ||| 2 ^ r).testBit g = true → ¬ D.rc g = none := by
        intro g hg z
        rcases bit_op hg with h | h
        · exact hpr g h z
        · rw [h, hz] at z
          cases z
      refine ih d2 n s I J R _ (op ||| 2 ^ r) (t.so - 12) fin (dep + 1) F (by omega) (by omega) hopr (by omega) hpc2 hpr2 hF hdj h2 (by omega) ?_ ?_ ?_
      · intro I1 fin1 F1 e1 hF1 hf1 hdj1 hr1 h21 h601 hpf1
        rw [if_pos e1] at q0 q1 q2
        simp (disch := omega) only [g_X4_enter_16, lk_X4_enter, g_X4_walk_111, g_X4_walk_114, g_X4_walk_115, g_X4_walk_116, g_X4_walk_118, g_X4_walk_119, g_X4_walk_121, g_X4_walk_124, g_X4_walk_126, g_X4_walk_128, g_X4_walk_131, g_X4_walk_133, g_X4_walk_134, g_X4_walk_137, lk_X4_walk, XI, Nat.reduceAdd, Nat.reduceEqDiff, not_false_eq_true, nI_T1, nI_T0, true_and, and_true, WC, WV, WU, nI_00, nI_10f, nI_11, true_or, or_true, false_or, or_false, true_and, and_true, not_true_eq_false, not_false_eq_true, if_true, if_false, nI_addS]
        refine ihl (k + 1) I1 fin1 F1 _ _ hts (by omega) hF1 (fun g hg => hf1 g (hf0 g hg)) hdj1 h21 (by rw [h601 dep (by omega)]; exact h60) ?_ ?_ ?_ ?_
        · intro j t2 hj hjt
          by_cases ej : j = k
          · subst ej
            rw [hs] at hjt
            cases hjt
            exact ⟨fun z => by omega, fun _ => hr1⟩
          · obtain ⟨y1, y2⟩ := hit j t2 (by omega) hjt
            refine ⟨y1, fun z => ?_⟩
            rcases y2 z with h | h
            · exact Or.inl h
            · exact Or.inr (hf1 _ h)
        · intro I' fin' F' e2 g1 g2 g3 g4 g5 g6 g7
          exact q0 I' fin' F' e2 g1 g2 g3 g4 g5 (fun j hj => by rw [g6 j hj, h601 j (by omega)]) (pf_t hpf1 g7)
        · intro I' e2 g1 g2 g3 g4 g5
          exact q1 I' e2 g1 (fun j hj => by rw [g2 j hj, h601 j (by omega)]) g3 g4 (pf_t hpf1 g5)
        · intro I' e2 g1
          exact q2 I' e2 (pf_t hpf1 g1)
      · intro I1 e1 hlen h601 h602 hst hpf1
        rw [if_neg (by omega), if_pos e1] at q1
        simp (disch := omega) only [g_X4_enter_16, lk_X4_enter, g_X4_walk_111, g_X4_walk_114, g_X4_walk_115, g_X4_walk_116, g_X4_walk_118, g_X4_walk_119, g_X4_walk_121, g_X4_walk_124, g_X4_walk_126, g_X4_walk_128, g_X4_walk_131, g_X4_walk_133, lk_X4_walk, XI, Nat.reduceAdd, Nat.reduceEqDiff, not_false_eq_true, nI_T1, nI_T0, true_and, and_true, WC, WV, WU, nI_00, nI_10f, nI_11, true_or, or_true, false_or, or_false, true_and, and_true, not_true_eq_false, not_false_eq_true, if_true, if_false]
        refine q1 I1 rfl ?_ (fun j hj => h601 j (by omega)) (by rw [h601 dep (by omega)]; exact h60) ?_ hpf1
        · rw [hlen]
          dsimp only
          rw [List.length_cons]
          congr 1
          omega
        · intro j v hj
          cases j with
          | zero =>
            cases hj
            exact ⟨h602, by omega⟩
          | succ j =>
            have h5 := hst j v hj
            rw [show dep + 1 + (j + 1) = dep + 1 + 1 + j by omega]
            exact h5
      · intro I1 e1 hpf1
        rw [if_neg (by omega), if_neg (by omega)] at q2
        simp (disch := omega) only [g_X4_enter_16, lk_X4_enter, g_X4_walk_111, g_X4_walk_114, g_X4_walk_115, g_X4_walk_116, g_X4_walk_118, g_X4_walk_119, g_X4_walk_121, g_X4_walk_124, g_X4_walk_126, g_X4_walk_128, g_X4_walk_131, g_X4_walk_133, lk_X4_walk, XI, Nat.reduceAdd, Nat.reduceEqDiff, not_false_eq_true, nI_T1, nI_T0, true_and, and_true, WC, WV, WU, nI_eq0S, Nat.reduceEqDiff, if_false]
        exact q2 I1 rfl hpf1
    · rw [if_neg e] at q0 q1 q2
      rw [if_pos e]
      have h11 : t.so < 12 := by omega
      obtain ⟨d2, rfl⟩ : ∃ d2, d = d2 + 2 := ⟨d - 2, by omega⟩
      simp (disch := omega) only [g_X4_walk_114, g_X4_walk_115, g_X4_walk_116, g_X4_walk_118, g_X4_walk_119, g_X4_walk_121, lk_X4_walk, XI, Nat.reduceAdd, Nat.reduceEqDiff, not_false_eq_true, nI_T1, nI_T0, true_and, and_true, WC, WV, WU, s_look P n s J R _ _ hq hD cx h11 ha hdep I]
      by_cases ec : coB D a t.so = true
      · rw [if_pos ec] at q1
        rw [if_pos ec]
        simp (disch := omega) only [g_X4_walk_124, g_X4_walk_126, g_X4_walk_128, g_X4_walk_131, g_X4_walk_133, lk_X4_walk, XI, Nat.reduceAdd, Nat.reduceEqDiff, not_false_eq_true, nI_T1, nI_T0, true_and, and_true, WC, WV, WU, nI_00, nI_10f, nI_11, true_or, or_true, false_or, or_false, true_and, and_true, not_true_eq_false, not_false_eq_true, if_true, if_false]
        refine q1 _ rfl ?_ ?_ ?_ ?_ ?_
        · rw [rs_u2_eq]
          rfl
        · intro j hj
          rw [rs_u2_ne _ _ (by omega), rs_u2_ne _ _ (by omega)]
        · rw [rs_u2_ne _ _ (by omega), rs_u2_ne _ _ (by omega)]
          exact h60
        · intro j v hj
          cases j with
          | zero =>
            cases hj
            refine ⟨?_, by omega⟩
            rw [rs_u2_ne _ _ (by omega), rs_u2_eq]
          | succ j => cases hj
        · intro q j e1 e2
          rw [rs_u2_ne _ _ (by omega), rs_u2_ne _ _ (by omega)]
      · rw [if_neg ec] at q0 q1 q2
        rw [if_neg ec]
        simp (disch := omega) only [g_X4_walk_124, g_X4_walk_126, g_X4_walk_128, g_X4_walk_131, g_X4_walk_133, g_X4_walk_134, g_X4_walk_137, lk_X4_walk, XI, Nat.reduceAdd, Nat.reduceEqDiff, not_false_eq_true, nI_T1, nI_T0, true_and, and_true, WC, WV, WU, nI_00, nI_10f, nI_11, true_or, or_true, false_or, or_false, true_and, and_true, not_true_eq_false, not_false_eq_true, if_true, if_false, nI_addS]
        refine ihl (k + 1) I fin F _ _ hts (by omega) hF hf0 hdj h2 h60 ?_ q0 q1 q2
        intro j t2 hj hjt
        by_cases ej : j = k
        · subst ej
          rw [hs] at hjt
          cases hjt
          exact ⟨fun _ => ec, fun z => absurd z e⟩
        · exact hit j t2 (by omega) hjt
theorem s_pwalk (hq : cSt P b q D) (hD : D.ok) (ha : a ≤ 7) : ∀ m, PwC P b q D a m
  | 0 => by
    intro d n s I J R Q op r fin dep F hm hdep
    omega
  | m + 1 => by
    intro d n s I J R Q op r fin dep F hm hdep hop hr hpc hpr hF hdj h2 hd q0 q1 q2
    have hfin := hF.1
    obtain ⟨d2, rfl⟩ : ∃ d2, d = d2 + 1 := ⟨d - 1, by omega⟩
    rw [em_X4_walk]
    rw [pw_s] at q0 q1 q2
    by_cases hor : op.testBit r = true
    · rw [if_pos hor] at q2
      simp (disch := omega) only [g_X4_walk_0, g_X4_walk_2, g_X4_walk_3, g_X4_walk_6, g_X4_walk_9, g_X4_walk_11, g_X4_walk_13, g_X4_walk_16, g_X4_walk_17, lk_X4_walk, XI, Nat.reduceAdd, Nat.reduceEqDiff, not_false_eq_true, nI_T1, nI_T0, true_and, and_true, WC, WV, WU, s_X11_isSet, rs_b_0, hor, nI_00, nI_10f, nI_11, true_or, or_true, false_or, or_false, true_and, and_true, not_true_eq_false, not_false_eq_true, if_true, if_false]
      exact q2 I rfl (fun _ _ _ _ => rfl)
    · rw [if_neg hor] at q0 q1 q2
      have hd8 : dep < 8 := by
        rcases Nat.lt_or_ge dep 8 with h | h
        · exact h
        · exact absurd (pc8_8 op hop (by omega) r hr) hor
      cases hz : D.rc r with
      | none =>
        rw [hz] at q0
        simp (disch := omega) only [g_X4_walk_0, g_X4_walk_2, g_X4_walk_3, g_X4_walk_6, g_X4_walk_9, g_X4_walk_11, g_X4_walk_13, g_X4_walk_16, g_X4_walk_17, g_X4_walk_18, g_X4_walk_19, g_X4_walk_20, g_X4_walk_23, g_X4_walk_25, g_X4_walk_27, g_X4_walk_30, g_X4_walk_31, g_X4_walk_34, g_X4_walk_35, g_X4_walk_38, g_X4_walk_41, g_X4_walk_42, lk_X4_walk, XI, Nat.reduceAdd, Nat.reduceEqDiff, not_false_eq_true, nI_T1, nI_T0, true_and, and_true, WC, WV, WU, s_X11_isSet, rs_b_0, hor, nI_ltS, hd8, k_St P n s I J R hq, g_recipeAt_n n s I J R hq hr hz, Bool.false_eq_true, nI_00, nI_10f, nI_11, true_or, or_true, false_or, or_false, true_and, and_true, not_true_eq_false, not_false_eq_true, if_true, if_false]
        exact q0 I fin F rfl hF (fun _ h => h) hdj (Or.inl rfl) h2 (fun _ _ => rfl) (fun _ _ _ _ => rfl)
      | some Z =>
        obtain ⟨y, hy, cy⟩ := g_recipeAt_s hq hr hz
        by_cases hfr : fin.testBit r = true
        · have hg : pw D a (m + 1) op r = (0, []) := by
            obtain ⟨i, hi⟩ := (hF.2.2.1 r).mp hfr
            have hil := (List.getElem?_eq_some_iff.mp hi).1
            have h8 := pc8_le fin
            have h9 := hF.2.1
            refine pw_good hF (i + 1) i r (m + 1) op (Nat.lt_succ_self i) hi (by omega) hpr ?_
            intro j g _ hg
            exact hdj g ((hF.2.2.1 g).mpr ⟨j, hg⟩)
          rw [pw_s, if_neg hor] at hg
          rw [hg] at q0
          simp (disch := omega) only [g_X4_walk_0, g_X4_walk_2, g_X4_walk_3, g_X4_walk_6, g_X4_walk_9, g_X4_walk_11, g_X4_walk_13, g_X4_walk_16, g_X4_walk_17, g_X4_walk_18, g_X4_walk_19, g_X4_walk_20, g_X4_walk_23, g_X4_walk_25, g_X4_walk_27, g_X4_walk_30, g_X4_walk_31, g_X4_walk_34, g_X4_walk_35, g_X4_walk_38, g_X4_walk_41, g_X4_walk_42, lk_X4_walk, XI, Nat.reduceAdd, Nat.reduceEqDiff, not_false_eq_true, nI_T1, nI_T0, true_and, and_true, WC, WV, WU, s_X11_isSet, rs_b_0, hor, nI_ltS, hd8, k_St P n s I J R hq, cy, h2, hfr, Bool.false_eq_true, nI_00, nI_10f, nI_11, true_or, or_true, false_or, or_false, true_and, and_true, not_true_eq_false, not_false_eq_true, if_true, if_false]
          exact q0 I fin F rfl hF (fun _ h => h) hdj (Or.inr hfr) h2 (fun _ _ => rfl) (fun _ _ _ _ => rfl)
        · rw [hz] at q0 q1 q2
          dsimp only at q0 q1 q2
          obtain ⟨V, i, U, h1, hi, v0, v1, v2, v3, v4, un, us⟩ := id hy
          simp (disch := omega) only [g_X4_walk_0, g_X4_walk_2, g_X4_walk_3, g_X4_walk_6, g_X4_walk_9, g_X4_walk_11, g_X4_walk_13, g_X4_walk_16, g_X4_walk_17, g_X4_walk_18, g_X4_walk_19, g_X4_walk_20, g_X4_walk_23, g_X4_walk_25, g_X4_walk_27, g_X4_walk_30, g_X4_walk_31, g_X4_walk_34, g_X4_walk_35, g_X4_walk_38, g_X4_walk_41, g_X4_walk_42, g_X4_walk_43, g_X4_walk_44, g_X4_walk_46, g_X4_walk_47, g_X4_walk_50, g_X4_walk_52, g_X4_walk_55, g_X4_walk_57, g_X4_walk_59, g_X4_walk_60, g_X4_walk_62, g_X4_walk_63, lk_X4_walk, XI, Nat.reduceAdd, Nat.reduceEqDiff, not_false_eq_true, nI_T1, nI_T0, true_and, and_true, WC, WV, WU, s_X11_isSet, rs_b_0, hor, nI_ltS, hd8, k_St P n s I J R hq, cy, h2, hfr, Bool.false_eq_true, s_putStep, sk_cP n s _ J R h1, sk_cP n s _ J R hi, v1, nI_00, nI_10f, nI_11, true_or, or_true, false_or, or_false, true_and, and_true, not_true_eq_false, not_false_eq_true, if_true, if_false]
          have hdj2 : ∀ g, fin.testBit g = true → ¬ (op ||| 2 ^ r).testBit g = true := by
            intro g hg z
            rcases bit_op z with h | h
            · exact hdj g hg h
            · rw [h] at hg
              exact hfr hg
          refine X4_walk_l hq hD ha (s_pwalk hq hD ha m) hr hz hi un us (op := op) (dep := dep) (fin0 := fin) (by omega) hd8 hop hpc hor hpr d2 n s J R Q (by omega) Z.its 0 _ fin F _ _ rfl (by omega) hF (fun _ h => h) hdj2 ?_ (rs_u2_eq _ _ _ _) (fun j t hj => absurd hj (Nat.not_lt_zero j)) ?_ ?_ ?_
          · rw [rs_u2_ne _ _ (by omega)]
            exact h2
          · intro I' fin' F' e1 g1 g2 g3 g4 g5 g6 g7
            refine q0 I' fin' F' e1 g1 g2 g3 (Or.inr g4) g5 (fun j hj => ?_) (fun q j e1 e2 => ?_)
            · rw [g6 j hj, rs_u2_ne _ _ (by omega)]
            · rw [g7 q j e1 e2, rs_u2_ne _ _ (by omega)]
          · intro I' e1 g1 g2 g3 g4 g5
            refine q1 I' e1 g1 (fun j hj => ?_) g3 g4 (fun q j e1 e2 => ?_)
            · rw [g2 j hj, rs_u2_ne _ _ (by omega)]
            · rw [g5 q j e1 e2, rs_u2_ne _ _ (by omega)]
          · intro I' e1 g1
            exact q2 I' e1 (fun q j e1 e2 => by rw [g1 q j e1 e2, rs_u2_ne _ _ (by omega)])
end
