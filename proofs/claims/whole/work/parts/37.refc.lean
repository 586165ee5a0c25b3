/-! the reference: an item of a recipe is entered -/
def fK (J J' : Nat → Nat → Int64) : Prop := ∀ q j, ¬ (q = 61 ∧ (j = 6 ∨ j = 7)) → J' q j = J q j
/-- whether a recipe is among those in hand -/
def inH (rid : Nat → Nat) : Nat → Nat → Bool
  | 0, _ => false
  | k + 1, r => inH rid k r || decide (rid k = r)
theorem inH_s (rid : Nat → Nat) (k r : Nat) : inH rid (k + 1) r = (inH rid k r || decide (rid k = r)) := rfl
theorem inH_0 (rid : Nat → Nat) (r : Nat) : inH rid 0 r = false := rfl
theorem rs_b_F [Decidable False] : rs_b False = nI 0 := rs_b_f id
theorem rs_b_or (p : Prop) [Decidable p] : rs_b p ||| nI 0 = rs_b p := nI_or0 _
theorem rs_b_or1 (p : Prop) [Decidable p] : rs_b p ||| nI 1 = nI 1 := by
  unfold rs_b
  split <;> decide
def wrC (D : Dt) (t : It) (f : Nat × Nat) (b : Bool) : Nat × (Nat × Nat) := match D.rc (t.so - 12) with
  | none => (1, (0, 1))
  | some Z => if b = true then (2, (0, 1)) else if ¬ Z.un = t.un then (3, (0, 1)) else match fOf t f Z with
    | none => (5, (0, 1))
    | some f2 => (0, f2)
theorem odiv_c (o : Option (Nat × Nat)) (y : Nat × Nat) : (o.bind fun q => fr (q.1 * y.2) (q.2 * y.1)) = odiv o (some y) := by
  cases o <;> rfl
section
variable (P : Nat → Option rs_C) (n s : Nat) (I : Nat → Nat → Int32) (J : Nat → Nat → Int64) (R : Nat → Nat → Option Nat) (d : Nat) (Q : rs_H → Option Value → Prop)
theorem X12_isInHand_l {rid : Nat → Nat} {h r : Nat} (hh : h ≤ 9) (h21 : I 61 21 = nI h) (hrid : ∀ k, k < h → I 69 k = nI (rid k) ∧ rid k < 8) (hr : r < 8) : ∀ (m k : Nat), k + m = h → (rs_X d yX12_isInHand 4 [some (.ref 61), some (.int (nI r)), some (.int (rs_b (inH rid k r = true))), some (.int (nI k))] [] (sk_w P n s I J R) Q ↔ Q (sk_w P n s I J R) (some (.int (rs_b (inH rid h r = true))))) := by
  intro m
  induction m with
  | zero =>
    intro k hk
    have : k = h := by omega
    subst this
    rw [g_X12_isInHand_4]
    simp (disch := omega) only [g_X12_isInHand_5, g_X12_isInHand_6, g_X12_isInHand_9, lk_X12_isInHand, g_X12_isInHand_36, g_X12_isInHand_37, lk_X12_isInHand, XI, Nat.reduceAdd, Nat.reduceEqDiff, not_false_eq_true, nI_T1, nI_T0, true_and, and_true, WC, WV, WU, h21, nI_leS, Nat.le_refl, if_true, rs_b_ok]
  | succ m ih =>
    intro k hk
    have hk1 := hrid k (by omega)
    rw [g_X12_isInHand_4]
    simp (disch := omega) only [g_X12_isInHand_5, g_X12_isInHand_6, g_X12_isInHand_9, g_X12_isInHand_12, g_X12_isInHand_13, g_X12_isInHand_14, g_X12_isInHand_17, g_X12_isInHand_18, g_X12_isInHand_19, g_X12_isInHand_20, g_X12_isInHand_23, g_X12_isInHand_24, g_X12_isInHand_27, g_X12_isInHand_28, g_X12_isInHand_29, g_X12_isInHand_30, g_X12_isInHand_33, lk_X12_isInHand, XI, Nat.reduceAdd, Nat.reduceEqDiff, not_false_eq_true, nI_T1, nI_T0, true_and, and_true, WC, WV, WU, h21, nI_leS, nI_cl, rs_in_t, hk1.1, nI_eqS, nI_addS, rs_b_or, rs_b_or1]
    rw [if_neg (by omega)]
    have e := ih (k + 1) (by omega)
    by_cases hb : rid k = r
    · have e2 : rs_b (inH rid (k + 1) r = true) = nI 1 := rs_b_t (by rw [inH_s, hb, decide_eq_true rfl, Bool.or_true])
      rw [e2] at e
      simp only [hb, not_true_eq_false, if_false]
      exact e
    · have e2 : inH rid (k + 1) r = inH rid k r := by rw [inH_s, decide_eq_false hb, Bool.or_false]
      rw [e2] at e
      simp only [hb, not_false_eq_true, if_true]
      exact e
theorem s_isInHand {rid : Nat → Nat} {h r : Nat} (hh : h ≤ 9) (h21 : I 61 21 = nI h) (hrid : ∀ k, k < h → I 69 k = nI (rid k) ∧ rid k < 8) (hr : r < 8) : rs_XM d yX12_isInHand [.ref 61, .int (nI r)] (sk_w P n s I J R) Q ↔ Q (sk_w P n s I J R) (some (.int (rs_b (inH rid h r = true)))) := by
  have e := X12_isInHand_l P n s I J R d Q hh h21 hrid hr h 0 (by omega)
  rw [em_X12_isInHand]
  simp (disch := omega) only [g_X12_isInHand_0, g_X12_isInHand_1, g_X12_isInHand_2, g_X12_isInHand_3, lk_X12_isInHand, XI, Nat.reduceAdd, Nat.reduceEqDiff, not_false_eq_true, nI_T1, nI_T0, true_and, and_true, WC, WV, WU]
  exact e
theorem s_takeInHand {h r : Nat} (hh : h < 9) (h21 : I 61 21 = nI h) (a b : Int64) : rs_XM d yX12_takeInHand [.ref 61, .int (nI r), .long a, .long b] (sk_w P n s I J R) Q ↔ Q (sk_w P n s (rs_u2 (rs_u2 (rs_u2 I 69 h (nI r)) 70 h (nI 0)) 61 21 (nI (h + 1))) (rs_u2 (rs_u2 J 71 h a) 72 h b) R) none := by
  rw [em_X12_takeInHand]
  simp (disch := omega) only [K_X12_takeInHand, lk_X12_takeInHand, XI, Nat.reduceAdd, Nat.reduceEqDiff, not_false_eq_true, nI_T1, nI_T0, true_and, and_true, WC, WV, WU, h21, rs_u2_ne, nI_cl, rs_in_t, nI_addS]
theorem s_walkRecipe {D : Dt} (hM : mDt (I 62) D) (hD : D.ok) {p : Nat} {t : It} (hp : p + 3 < 448) (hpt : mIt (I 62) p t) (ht : t.ok) (hs : 12 ≤ t.so) {h : Nat} (hh : h < 8) (h21 : I 61 21 = nI (h + 1)) {rid : Nat → Nat} (hrid : ∀ k, k < h + 1 → I 69 k = nI (rid k) ∧ rid k < 8) {f : Nat × Nat} (hf : isF f) (hf1 : J 71 h = lN f.1) (hf2 : J 72 h = lN f.2) (h8 : I 61 8 = nI 0)
    (hQ1 : ¬ (wrC D t f (inH rid (h + 1) (t.so - 12))).1 = 0 → ∀ I' J', fI I I' → fK J J' → Q (sk_w P n s I' J' R) (some (.int (nI (wrC D t f (inH rid (h + 1) (t.so - 12))).1))))
    (hQ0 : (wrC D t f (inH rid (h + 1) (t.so - 12))).1 = 0 → ∀ I' J', fI I I' → fK J J' → I' 61 8 = nI 0 → Q (sk_w P n s (rs_u2 (rs_u2 (rs_u2 I' 69 (h + 1) (nI (t.so - 12))) 70 (h + 1) (nI 0)) 61 21 (nI (h + 2))) (rs_u2 (rs_u2 J' 71 (h + 1) (lN (wrC D t f (inH rid (h + 1) (t.so - 12))).2.1)) 72 (h + 1) (lN (wrC D t f (inH rid (h + 1) (t.so - 12))).2.2)) R) (some (.int (nI 0)))) : rs_XM (d + 3) yX12_walkRecipe [.ref 61, .int (nI p)] (sk_w P n s I J R) Q := by
  have hr8 : t.so - 12 < 8 := by have := ht.2.2.2; omega
  have hu := ht.2.2.1
  have ham := ht.1
  obtain ⟨p0, p1, p2, p3⟩ := hpt
  have hrc := hM.1 (t.so - 12) hr8
  rw [em_X12_walkRecipe]
  simp (disch := omega) only [g_X12_walkRecipe_0, g_X12_walkRecipe_1, g_X12_walkRecipe_4, g_X12_walkRecipe_5, g_X12_walkRecipe_6, g_X12_walkRecipe_7, g_X12_walkRecipe_8, g_X12_walkRecipe_10, g_X12_walkRecipe_11, g_X12_walkRecipe_12, g_X12_walkRecipe_13, g_X12_walkRecipe_14, g_X12_walkRecipe_17, lk_X12_walkRecipe, XI, Nat.reduceAdd, Nat.reduceEqDiff, not_false_eq_true, nI_T1, nI_T0, true_and, and_true, WC, WV, WU, nI_addS, nI_cl, rs_in_t, p3, nI_subS, s_X12_isThere, rs_b_0]
  unfold wrC at hQ1 hQ0
  cases hz : D.rc (t.so - 12) with
  | none =>
    rw [hz] at hQ1 hrc
    have z1 : I 62 (30 * (t.so - 12)) = nI 0 := hrc.1
    rw [z1]
    simp (disch := omega) only [g_X12_walkRecipe_20, g_X12_walkRecipe_21, lk_X12_walkRecipe, XI, Nat.reduceAdd, Nat.reduceEqDiff, not_false_eq_true, nI_T1, nI_T0, true_and, and_true, WC, WV, WU, nI_eqS, Nat.reduceEqDiff, not_false_eq_true, not_true_eq_false, if_true, if_false]
    exact hQ1 (show ¬ (1 : Nat) = 0 by decide) I J (fI_r I) (fun _ _ _ => rfl)
  | some Z =>
    rw [hz] at hQ1 hQ0 hrc
    dsimp only at hQ1 hQ0
    obtain ⟨z1, z2, z3, z4, z5, z6, z7⟩ := hrc
    have hZ := (hD.1 _ _ hz).2
    have hyl := hZ.2.2.2.1
    have hzu := hZ.2.2.2.2.2.1
    rw [z1]
    simp (disch := omega) only [g_X12_walkRecipe_22, g_X12_walkRecipe_23, g_X12_walkRecipe_24, g_X12_walkRecipe_27, g_X12_walkRecipe_30, g_X12_walkRecipe_31, g_X12_walkRecipe_32, g_X12_walkRecipe_33, g_X12_walkRecipe_36, g_X12_walkRecipe_37, g_X12_walkRecipe_38, g_X12_walkRecipe_39, g_X12_walkRecipe_40, g_X12_walkRecipe_41, g_X12_walkRecipe_44, g_X12_walkRecipe_46, g_X12_walkRecipe_47, g_X12_walkRecipe_48, g_X12_walkRecipe_49, g_X12_walkRecipe_50, g_X12_walkRecipe_51, lk_X12_walkRecipe, XI, Nat.reduceAdd, Nat.reduceEqDiff, not_false_eq_true, nI_T1, nI_T0, true_and, and_true, WC, WV, WU, not_true_eq_false, not_false_eq_true, if_true, if_false, s_isInHand P n s I J R _ _ (show h + 1 ≤ 9 by omega) h21 hrid hr8, rs_b_0, nI_addS, nI_mulS, nI_cl, rs_in_t, p2, z5, nI_eqS]
    by_cases hb : inH rid (h + 1) (t.so - 12) = true
    · rw [if_neg (fun z => z hb)]
      rw [if_pos hb] at hQ1
      exact hQ1 (show ¬ (2 : Nat) = 0 by decide) I J (fI_r I) (fun _ _ _ => rfl)
    · rw [if_pos hb]
      rw [if_neg hb] at hQ1 hQ0
      by_cases hun : Z.un = t.un
      · rw [if_neg (fun z => z hun)] at hQ1 hQ0
        rw [if_pos hun.symm]
        simp (disch := omega) only [g_X12_walkRecipe_56, g_X12_walkRecipe_57, g_X12_walkRecipe_58, g_X12_walkRecipe_61, g_X12_walkRecipe_62, g_X12_walkRecipe_63, g_X12_walkRecipe_64, g_X12_walkRecipe_65, g_X12_walkRecipe_68, g_X12_walkRecipe_69, g_X12_walkRecipe_70, g_X12_walkRecipe_71, g_X12_walkRecipe_72, g_X12_walkRecipe_73, g_X12_walkRecipe_76, g_X12_walkRecipe_77, g_X12_walkRecipe_78, g_X12_walkRecipe_81, g_X12_walkRecipe_82, g_X12_walkRecipe_85, g_X12_walkRecipe_86, g_X12_walkRecipe_87, g_X12_walkRecipe_88, g_X12_walkRecipe_89, g_X12_walkRecipe_92, g_X12_walkRecipe_93, g_X12_walkRecipe_96, g_X12_walkRecipe_97, g_X12_walkRecipe_98, g_X12_walkRecipe_99, lk_X12_walkRecipe, XI, Nat.reduceAdd, Nat.reduceEqDiff, not_false_eq_true, nI_T1, nI_T0, true_and, and_true, WC, WV, WU, nI_addS, nI_cl, rs_in_t, p0, p1, s_X12_set, nI_long ham.1, nI_long ham.2.2.1, h21, nI_subS, Nat.add_sub_cancel, rs_u2_ne, hf1, hf2]
        refine s_X12_times _ P n s I _ R _ (MO_set J h8 ham) hf.1 hf.2.1 hf.2.2.1 ?_
        intro I1 J1 m1
        rw [omul_c] at m1
        have i62 : ∀ j, I1 62 j = I 62 j := fun j => m1.2.1 62 j (by omega)
        simp (disch := omega) only [g_X12_walkRecipe_102, g_X12_walkRecipe_103, g_X12_walkRecipe_104, g_X12_walkRecipe_107, g_X12_walkRecipe_109, g_X12_walkRecipe_110, g_X12_walkRecipe_111, g_X12_walkRecipe_112, g_X12_walkRecipe_113, g_X12_walkRecipe_114, g_X12_walkRecipe_115, g_X12_walkRecipe_116, g_X12_walkRecipe_117, g_X12_walkRecipe_118, g_X12_walkRecipe_121, g_X12_walkRecipe_123, g_X12_walkRecipe_124, g_X12_walkRecipe_125, g_X12_walkRecipe_126, g_X12_walkRecipe_127, g_X12_walkRecipe_128, g_X12_walkRecipe_129, lk_X12_walkRecipe, XI, Nat.reduceAdd, Nat.reduceEqDiff, not_false_eq_true, nI_T1, nI_T0, true_and, and_true, WC, WV, WU, nI_addS, nI_mulS, nI_cl, rs_in_t, i62, z3, z4, nI_long hyl.1, nI_long hyl.2.2.1]
        refine s_X12_times _ P n s I1 J1 R _ m1.1 hyl.2.2.1 hZ.2.2.2.2.1 hyl.1 ?_
        intro I2 J2 m2
        rw [odiv_c] at m2
        have m12 := MOf_t m1 m2
        have fk : fK J J2 := fun q j e => by rw [m12.2.2 q j e, rs_u2_ne _ _ (by omega), rs_u2_ne _ _ (by omega)]
        have g8 := MO_g I2 J2 m2.1
        have h21' : I2 61 21 = nI (h + 1) := by rw [m12.2.1 61 21 (by omega)]; exact h21
        simp (disch := omega) only [g_X12_walkRecipe_132, g_X12_walkRecipe_133, g_X12_walkRecipe_136, g_X12_walkRecipe_139, g_X12_walkRecipe_140, g_X12_walkRecipe_141, g_X12_walkRecipe_142, g_X12_walkRecipe_143, g_X12_walkRecipe_144, g_X12_walkRecipe_147, g_X12_walkRecipe_148, g_X12_walkRecipe_151, g_X12_walkRecipe_154, g_X12_walkRecipe_155, lk_X12_walkRecipe, XI, Nat.reduceAdd, Nat.reduceEqDiff, not_false_eq_true, nI_T1, nI_T0, true_and, and_true, WC, WV, WU, nI_addS, nI_cl, rs_in_t]
        have hfo : fOf t f Z = odiv (omul (some t.am) (some f)) (some Z.yl) := rfl
        rw [hfo] at hQ0 hQ1
        cases ha : odiv (omul (some t.am) (some f)) (some Z.yl) with
        | none =>
          rw [ha] at hQ1 g8
          rw [if_pos rfl] at g8
          rw [if_neg (by rw [g8]; decide)]
          exact hQ1 (show ¬ (5 : Nat) = 0 by decide) I2 J2 m12.2.1 fk
        | some f2 =>
          rw [ha] at hQ0 g8 m2
          rw [if_neg (by intro z; cases z)] at g8
          rw [if_pos (by rw [g8]; rfl)]
          have c1 : J2 61 6 = lN f2.1 := m2.1.2.2.1
          have c2 : J2 61 7 = lN f2.2 := m2.1.2.2.2
          simp (disch := omega) only [c1, c2, s_takeInHand P n s I2 J2 R _ _ (show h + 1 < 9 by omega) h21', g_X12_walkRecipe_154, g_X12_walkRecipe_155, lk_X12_walkRecipe, XI, Nat.reduceAdd, Nat.reduceEqDiff, not_false_eq_true, nI_T1, nI_T0, true_and, and_true, WC, WV, WU]
          exact hQ0 rfl I2 J2 m12.2.1 fk g8
      · rw [if_pos hun] at hQ1
        rw [if_neg (fun z => hun z.symm)]
        simp (disch := omega) only [g_X12_walkRecipe_54, g_X12_walkRecipe_55, lk_X12_walkRecipe, XI, Nat.reduceAdd, Nat.reduceEqDiff, not_false_eq_true, nI_T1, nI_T0, true_and, and_true, WC, WV, WU]
        exact hQ1 (show ¬ (3 : Nat) = 0 by decide) I J (fI_r I) (fun _ _ _ => rfl)
end
