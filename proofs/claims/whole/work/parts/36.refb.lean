/-! the reference: an item of an ingredient is added -/
/-- what an item may change: the number in hand, and what is needed -/
def fI (I I' : Nat → Nat → Int32) : Prop := ∀ q j, ¬ (q = 61 ∧ j = 8) → I' q j = I q j
def fJ (J J' : Nat → Nat → Int64) : Prop := ∀ q j, ¬ (q = 61 ∧ (j = 6 ∨ j = 7)) → ¬ (q = 67) → ¬ (q = 68) → J' q j = J q j
theorem fI_r (I : Nat → Nat → Int32) : fI I I := fun _ _ _ => rfl
theorem fJ_r (J : Nat → Nat → Int64) : fJ J J := fun _ _ _ _ _ => rfl
theorem mS_at {J : Nat → Nat → Int64} {a b m : Nat} {S : Nat → Nat × Nat} (h : mS J a b m S) {i : Nat} (hi : i < m) : J a i = lN (S i).1 ∧ J b i = lN (S i).2 := h i hi
theorem mS_up {J : Nat → Nat → Int64} {a b m : Nat} {S : Nat → Nat × Nat} (h : mS J a b m S) (hab : ¬ a = b) (i : Nat) (p : Nat × Nat) : mS (rs_u2 (rs_u2 J a i (lN p.1)) b i (lN p.2)) a b m (upS S i p) := by
  intro j hj
  unfold upS
  by_cases e : j = i
  · subst e
    rw [if_pos rfl]
    refine ⟨?_, rs_u2_eq _ _ _ _⟩
    rw [rs_u2_ne _ _ (fun z => hab z.1), rs_u2_eq]
  · rw [if_neg e, rs_u2_ne _ _ (fun z => e z.2), rs_u2_ne _ _ (fun z => e z.2), rs_u2_ne _ _ (fun z => e z.2), rs_u2_ne _ _ (fun z => e z.2)]
    exact h j hj
section
variable (P : Nat → Option rs_C) (n s : Nat) (I : Nat → Nat → Int32) (J : Nat → Nat → Int64) (R : Nat → Nat → Option Nat) (d : Nat) (Q : rs_H → Option Value → Prop)
theorem MO_set {I : Nat → Nat → Int32} (h8 : I 61 8 = nI 0) {q : Nat × Nat} (hq : isF q) : MO I (rs_u2 (rs_u2 J 61 6 (lN q.1)) 61 7 (lN q.2)) (some q) := by
  refine ⟨hq, h8, ?_, rs_u2_eq _ _ _ _⟩
  rw [rs_u2_ne _ _ (by omega), rs_u2_eq]
theorem s_walkIngredient {D : Dt} (hM : mDt (I 62) D) (hD : D.ok) {p : Nat} {t : It} (hp : p + 3 < 448) (hpt : mIt (I 62) p t) (ht : t.ok) (hs : t.so < 12) {h : Nat} (hh : h < 9) (h21 : I 61 21 = nI (h + 1)) {f : Nat × Nat} (hf : isF f) (hf1 : J 71 h = lN f.1) (hf2 : J 72 h = lN f.2) {S : Nat → Nat × Nat} (hS : stOk S) (hmS : mS J 67 68 12 S) (h8 : I 61 8 = nI 0) (hQ : ∀ I' J', fI I I' → fJ J J' → mS J' 67 68 12 (adI D t f S).2 → ((adI D t f S).1 = 0 → I' 61 8 = nI 0) → Q (sk_w P n s I' J' R) (some (.int (nI (adI D t f S).1)))) : rs_XM (d + 3) yX12_walkIngredient [.ref 61, .int (nI p)] (sk_w P n s I J R) Q := by
  have hu := ht.2.2.1
  have ham := ht.1
  obtain ⟨p0, p1, p2, p3⟩ := hpt
  have hgl : gAt t.so t.un + 1 < 448 := by unfold gAt; split <;> omega
  rw [em_X12_walkIngredient]
  simp (disch := omega) only [g_X12_walkIngredient_0, g_X12_walkIngredient_1, g_X12_walkIngredient_4, g_X12_walkIngredient_5, g_X12_walkIngredient_6, g_X12_walkIngredient_7, g_X12_walkIngredient_8, g_X12_walkIngredient_9, g_X12_walkIngredient_10, g_X12_walkIngredient_11, g_X12_walkIngredient_14, g_X12_walkIngredient_15, g_X12_walkIngredient_16, g_X12_walkIngredient_17, g_X12_walkIngredient_18, g_X12_walkIngredient_21, g_X12_walkIngredient_22, g_X12_walkIngredient_23, lk_X12_walkIngredient, XI, Nat.reduceAdd, Nat.reduceEqDiff, not_false_eq_true, nI_T1, nI_T0, true_and, and_true, WC, WV, WU, nI_addS, nI_cl, rs_in_t, p2, p3, s_gramsAt _ _ _ hu]
  have hgo := Ig.gr_ok (hD.2.1 t.so hs) t.un
  have go : ∀ g, (D.ig t.so).gr t.un = some g → rs_X (d + 3) yX12_walkIngredient 39 [some (.ref 61), some (.int (nI p)), some (.int (nI t.so)), some (.int (if t.un = 0 then -1 else nI (gAt t.so t.un)))] [] (sk_w P n s I J R) Q := by
    intro g hg
    simp (disch := omega) only [g_X12_walkIngredient_39, g_X12_walkIngredient_40, g_X12_walkIngredient_41, g_X12_walkIngredient_44, g_X12_walkIngredient_45, g_X12_walkIngredient_46, g_X12_walkIngredient_47, g_X12_walkIngredient_48, g_X12_walkIngredient_51, g_X12_walkIngredient_52, g_X12_walkIngredient_53, g_X12_walkIngredient_54, g_X12_walkIngredient_55, g_X12_walkIngredient_56, g_X12_walkIngredient_59, g_X12_walkIngredient_60, g_X12_walkIngredient_61, g_X12_walkIngredient_64, g_X12_walkIngredient_65, g_X12_walkIngredient_68, g_X12_walkIngredient_69, g_X12_walkIngredient_70, g_X12_walkIngredient_71, g_X12_walkIngredient_72, g_X12_walkIngredient_75, g_X12_walkIngredient_76, g_X12_walkIngredient_79, g_X12_walkIngredient_80, g_X12_walkIngredient_81, g_X12_walkIngredient_82, lk_X12_walkIngredient, XI, Nat.reduceAdd, Nat.reduceEqDiff, not_false_eq_true, nI_T1, nI_T0, true_and, and_true, WC, WV, WU, nI_addS, nI_cl, rs_in_t, p0, p1, s_X12_set, nI_long ham.1, nI_long ham.2.2.1, h21, nI_subS, Nat.add_sub_cancel, rs_u2_ne, hf1, hf2]
    refine s_X12_times _ P n s I _ R _ (MO_set J h8 ham) hf.1 hf.2.1 hf.2.2.1 ?_
    intro I1 J1 m1
    rw [omul_c] at m1
    have i62 : ∀ j, I1 62 j = I 62 j := fun j => m1.2.1 62 j (by omega)
    have hM1 : mDt (I1 62) D := by rw [show I1 62 = I 62 from funext i62]; exact hM
    simp (disch := omega) only [g_X12_walkIngredient_85, g_X12_walkIngredient_86, g_X12_walkIngredient_87, g_X12_walkIngredient_88, g_X12_walkIngredient_91, g_X12_walkIngredient_92, g_X12_walkIngredient_93, g_X12_walkIngredient_94, g_X12_walkIngredient_95, lk_X12_walkIngredient, XI, Nat.reduceAdd, Nat.reduceEqDiff, not_false_eq_true, nI_T1, nI_T0, true_and, and_true, WC, WV, WU, nI_addS, nI_cl, rs_in_t, i62, p2]
    refine s_timesGrams P n s I1 J1 R _ _ hM1 hD hs hu hg m1.1 ?_
    intro I2 J2 m2
    have m12 := MOf_t m1 m2
    have j67 : ∀ j, J2 67 j = J 67 j := fun j => by rw [m12.2.2 67 j (by omega), rs_u2_ne _ _ (by omega), rs_u2_ne _ _ (by omega)]
    have j68 : ∀ j, J2 68 j = J 68 j := fun j => by rw [m12.2.2 68 j (by omega), rs_u2_ne _ _ (by omega), rs_u2_ne _ _ (by omega)]
    have q1 := (hmS t.so hs).1
    have q2 := (hmS t.so hs).2
    have qF := hS t.so hs
    simp (disch := omega) only [g_X12_walkIngredient_98, g_X12_walkIngredient_99, g_X12_walkIngredient_100, g_X12_walkIngredient_103, g_X12_walkIngredient_104, g_X12_walkIngredient_105, g_X12_walkIngredient_106, g_X12_walkIngredient_109, g_X12_walkIngredient_110, g_X12_walkIngredient_111, lk_X12_walkIngredient, XI, Nat.reduceAdd, Nat.reduceEqDiff, not_false_eq_true, nI_T1, nI_T0, true_and, and_true, WC, WV, WU, nI_addS, nI_cl, rs_in_t, j67, j68, q1, q2]
    refine s_X12_plus _ P n s I2 J2 R _ m2.1 qF.1 qF.2.1 qF.2.2.1 ?_
    intro I3 J3 m3
    rw [adO_c] at m3
    have m13 := MOf_t m12 m3
    have fi : fI I I3 := m13.2.1
    have fj : fJ J J3 := fun q j e e1 e2 => by rw [m13.2.2 q j e, rs_u2_ne _ _ (by omega), rs_u2_ne _ _ (by omega)]
    have k67 : ∀ j, J3 67 j = J 67 j := fun j => by rw [m3.2.2 67 j (by omega), j67]
    have k68 : ∀ j, J3 68 j = J 68 j := fun j => by rw [m3.2.2 68 j (by omega), j68]
    have mS3 : mS J3 67 68 12 S := fun i hi => by rw [k67, k68]; exact hmS i hi
    have g8 := MO_g I3 J3 m3.1
    simp (disch := omega) only [g_X12_walkIngredient_114, g_X12_walkIngredient_115, g_X12_walkIngredient_118, g_X12_walkIngredient_121, g_X12_walkIngredient_122, g_X12_walkIngredient_123, g_X12_walkIngredient_124, g_X12_walkIngredient_127, g_X12_walkIngredient_128, g_X12_walkIngredient_129, g_X12_walkIngredient_132, g_X12_walkIngredient_133, g_X12_walkIngredient_134, g_X12_walkIngredient_137, g_X12_walkIngredient_138, g_X12_walkIngredient_139, g_X12_walkIngredient_142, g_X12_walkIngredient_143, g_X12_walkIngredient_144, lk_X12_walkIngredient, XI, Nat.reduceAdd, Nat.reduceEqDiff, not_false_eq_true, nI_T1, nI_T0, true_and, and_true, WC, WV, WU, nI_addS, nI_cl, rs_in_t]
    unfold adI at hQ
    rw [hg] at hQ
    dsimp only at hQ
    cases ha : adO (S t.so) (omul (omul (some t.am) (some f)) (some g)) with
    | none =>
      rw [ha] at hQ g8
      rw [if_pos rfl] at g8
      rw [if_neg (by rw [g8]; decide)]
      exact hQ I3 J3 fi fj mS3 (fun z => by cases z)
    | some r =>
      rw [ha] at hQ g8 m3
      rw [if_neg (by intro z; cases z)] at g8
      rw [if_pos (by rw [g8]; rfl)]
      have c1 : J3 61 6 = lN r.1 := m3.1.2.2.1
      have c2 : J3 61 7 = lN r.2 := m3.1.2.2.2
      simp (disch := omega) only [rs_u2_ne, c1, c2]
      refine hQ I3 _ fi ?_ (mS_up mS3 (by decide) _ _) (fun _ => g8)
      intro q j e e1 e2
      rw [rs_u2_ne _ _ (by omega), rs_u2_ne _ _ (by omega)]
      exact fj q j e e1 e2
  by_cases h0 : t.un = 0
  · have hg : (D.ig t.so).gr t.un = some (1, 1) := by unfold Ig.gr; rw [if_pos h0]
    have g1 := go _ hg
    rw [if_pos h0] at g1
    rw [if_pos h0]
    simp (disch := omega) only [show ((-1 : Int32) < 0) ↔ True from ⟨fun _ => trivial, fun _ => by decide⟩, if_true]
    exact g1
  · have hfr := mIg_gr (hM.2.1 t.so hs) h0
    rw [if_neg h0]
    rw [if_neg h0] at go
    cases hg : (D.ig t.so).gr t.un with
    | none =>
      rw [hg] at hfr
      have z2 : I 62 (gAt t.so t.un + 1) = nI 0 := hfr.2
      simp (disch := omega) only [g_X12_walkIngredient_26, g_X12_walkIngredient_27, g_X12_walkIngredient_30, g_X12_walkIngredient_31, g_X12_walkIngredient_32, g_X12_walkIngredient_33, g_X12_walkIngredient_34, g_X12_walkIngredient_37, g_X12_walkIngredient_38, lk_X12_walkIngredient, XI, Nat.reduceAdd, Nat.reduceEqDiff, not_false_eq_true, nI_T1, nI_T0, true_and, and_true, WC, WV, WU, nI_lt0S, if_false, nI_addS, nI_cl, rs_in_t, z2, nI_00, not_true_eq_false]
      unfold adI at hQ
      rw [hg] at hQ
      exact hQ I J (fI_r I) (fJ_r J) hmS (fun z => by cases z)
    | some g =>
      have g1 := go g hg
      rw [hg] at hfr hgo
      have hgF := hgo g rfl
      have z2 : I 62 (gAt t.so t.un + 1) = nI g.2 := hfr.2
      have hne : ¬ nI g.2 = 0 := fun z => by
        have := (nI_eq0S (n := g.2) (by have := hgF.2.2.1; omega)).mp z
        have := hgF.2.1
        omega
      simp (disch := omega) only [g_X12_walkIngredient_26, g_X12_walkIngredient_27, g_X12_walkIngredient_30, g_X12_walkIngredient_31, g_X12_walkIngredient_32, g_X12_walkIngredient_33, g_X12_walkIngredient_34, g_X12_walkIngredient_37, g_X12_walkIngredient_38, lk_X12_walkIngredient, XI, Nat.reduceAdd, Nat.reduceEqDiff, not_false_eq_true, nI_T1, nI_T0, true_and, and_true, WC, WV, WU, nI_lt0S, if_false, nI_addS, nI_cl, rs_in_t, z2, hne, not_false_eq_true, if_true]
      exact g1
end
