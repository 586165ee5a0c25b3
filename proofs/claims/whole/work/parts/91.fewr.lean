/-! the reference: the pack by which all is divided, the inverse, the fewest -/
def fX (I I' : Nat → Nat → Int32) : Prop := ∀ q j, ¬ (q = 61 ∧ (j = 32 ∨ j = 33 ∨ j = 34)) → I' q j = I q j
theorem fX_r (I : Nat → Nat → Int32) : fX I I := fun _ _ _ => rfl
theorem fX_t {I I' I2 : Nat → Nat → Int32} (h : fX I I') (h2 : fX I' I2) : fX I I2 := fun q j a => (h2 q j a).trans (h q j a)
theorem fX_u {I I' : Nat → Nat → Int32} (h : fX I I') {j : Nat} (hj : j = 32 ∨ j = 33 ∨ j = 34) (v : Int32) : fX I (rs_u2 I' 61 j v) := fun q k a => by rw [rs_u2_ne _ _ (by omega)]; exact h q k a
section
variable (P : Nat → Option rs_C) (n s : Nat) (J : Nat → Nat → Int64) (R : Nat → Nat → Option Nat) (d : Nat) (Q : rs_H → Option Value → Prop)
theorem X12_bp_l (I : Nat → Nat → Int32) {i : Nat} (hi : i < 12) {pk : List (Nat × Nat)} (hp : pkOk pk) (hI : mPk I i pk) : ∀ (m k : Nat), k + 1 + m = pk.length → (rs_X (d + 3) yX12_bestPack 4 [some (.ref 61), some (.int (nI i)), some (.int (nI (bp pk k))), some (.int (nI (k + 1)))] [] (sk_w P n s I J R) Q ↔ Q (sk_w P n s I J R) (some (.int (nI (bp pk (pk.length - 1)))))) := by
  have h3 := hp.2.1
  intro m
  induction m with
  | zero =>
    intro k hk
    have e : k = pk.length - 1 := by omega
    rw [g_X12_bestPack_4]
    simp (disch := omega) only [g_X12_bestPack_5, g_X12_bestPack_6, g_X12_bestPack_7, g_X12_bestPack_10, lk_X12_bestPack, g_X12_bestPack_35, g_X12_bestPack_36, lk_X12_bestPack, XI, Nat.reduceAdd, Nat.reduceEqDiff, not_false_eq_true, nI_T1, nI_T0, true_and, and_true, WC, WV, WU, s_X12_packs, hI.1, nI_leS]
    rw [if_pos (by omega), e]
  | succ m ih =>
    intro k hk
    have hb := bp_le pk k
    have h2 := ih (k + 1) (by omega)
    rw [bp_s] at h2
    rw [g_X12_bestPack_4]
    simp (disch := omega) only [g_X12_bestPack_5, g_X12_bestPack_6, g_X12_bestPack_7, g_X12_bestPack_10, g_X12_bestPack_13, g_X12_bestPack_14, g_X12_bestPack_15, g_X12_bestPack_16, g_X12_bestPack_17, g_X12_bestPack_20, g_X12_bestPack_23, g_X12_bestPack_24, g_X12_bestPack_27, g_X12_bestPack_28, g_X12_bestPack_29, g_X12_bestPack_32, lk_X12_bestPack, XI, Nat.reduceAdd, Nat.reduceEqDiff, not_false_eq_true, nI_T1, nI_T0, true_and, and_true, WC, WV, WU, rs_b_0, rs_b_ok2, true_or, or_true, Classical.not_not, not_true_eq_false, if_true, if_false, reduceCtorEq, s_X12_packs, hI.1, nI_leS, s_isSooner P n s I J R _ _ hi hp hI (show k + 1 < pk.length by omega) (show bp pk k < pk.length by omega), nI_addS]
    rw [if_neg (by omega)]
    by_cases e : sn pk (k + 1) (bp pk k) = true
    · rw [if_pos e] at h2
      simp only [e, not_true_eq_false, if_false]
      exact h2
    · rw [if_neg e] at h2
      simp only [e, not_false_eq_true, if_true, Bool.false_eq_true]
      exact h2
theorem s_bestPack (I : Nat → Nat → Int32) {i : Nat} (hi : i < 12) {pk : List (Nat × Nat)} (hp : pkOk pk) (hI : mPk I i pk) : rs_XM (d + 3) yX12_bestPack [.ref 61, .int (nI i)] (sk_w P n s I J R) Q ↔ Q (sk_w P n s I J R) (some (.int (nI (bp pk (pk.length - 1))))) := by
  have h1 := hp.1
  rw [em_X12_bestPack]
  simp (disch := omega) only [g_X12_bestPack_0, g_X12_bestPack_1, g_X12_bestPack_2, g_X12_bestPack_3, lk_X12_bestPack, XI, Nat.reduceAdd, Nat.reduceEqDiff, not_false_eq_true, nI_T1, nI_T0, true_and, and_true, WC, WV, WU]
  exact X12_bp_l P n s J R d Q I hi hp hI (pk.length - 1) 0 (by omega)
theorem X12_li_l {a b : Nat} (ha : a < 2001) (hb1 : 1 < b) (hb : b ≤ 2000) (I0 : Nat → Nat → Int32) (hQ2 : ∀ I' z, (∀ q j, ¬ (q = 61 ∧ j = 34) → I' q j = I0 q j) → I' 61 34 = nI z → z < b → z * a % b = 1 → Q (sk_w P n s I' J R) none) : ∀ (m z : Nat) (I : Nat → Nat → Int32), (∀ q j, ¬ (q = 61 ∧ j = 34) → I q j = I0 q j) → I 61 34 = nI z → (∃ j, z ≤ j ∧ j < b ∧ j * a % b = 1) → z + m = b → rs_X d yX12_layInverse 31 [some (.ref 61), some (.int (nI a)), some (.int (nI b))] [] (sk_w P n s I J R) Q := by
  intro m
  induction m with
  | zero =>
    intro z I hf hz ⟨j, j1, j2, j3⟩ hm
    omega
  | succ m ih =>
    intro z I hf hz ⟨j, j1, j2, j3⟩ hm
    have hza : z * a ≤ 2000 * 2000 := Nat.mul_le_mul (by omega) (by omega)
    have er := pk_lRem (a := z * a) (b := b) (by omega) (by omega) (by omega)
    have hbn : ¬ lN b = 0 := fun y => by
      have := (lN_inj (a := b) (b := 0) (by omega) (by decide)).mp y
      omega
    rw [g_X12_layInverse_31]
    simp (disch := omega) only [g_X12_layInverse_32, g_X12_layInverse_33, g_X12_layInverse_36, g_X12_layInverse_37, g_X12_layInverse_40, g_X12_layInverse_41, g_X12_layInverse_42, g_X12_layInverse_43, g_X12_layInverse_44, g_X12_layInverse_45, g_X12_layInverse_46, g_X12_layInverse_47, g_X12_layInverse_48, g_X12_layInverse_49, lk_X12_layInverse, XI, Nat.reduceAdd, Nat.reduceEqDiff, not_false_eq_true, nI_T1, nI_T0, true_and, and_true, WC, WV, WU, nI_leS, hz, nI_long, lN_mul, hbn, not_false_eq_true, true_and, er, lg_cmp_eq]
    rw [if_neg (by omega)]
    by_cases e : z * a % b = 1
    · rw [e]
      simp (disch := omega) only [if_true, g_X12_layInverse_65, lk_X12_layInverse, XI, Nat.reduceAdd, Nat.reduceEqDiff, not_false_eq_true, nI_T1, nI_T0, true_and, and_true, WC, WV, WU]
      exact hQ2 I z hf hz (by omega) e
    · have hlt : z * a % b < b := Nat.mod_lt _ (by omega)
      have e2 : ¬ lN (z * a % b) = lN 1 := fun y => e ((lN_inj (by omega) (by decide)).mp y)
      rw [if_neg e2]
      simp (disch := omega) only [g_X12_layInverse_52, g_X12_layInverse_53, g_X12_layInverse_54, g_X12_layInverse_57, g_X12_layInverse_58, g_X12_layInverse_59, g_X12_layInverse_62, lk_X12_layInverse, XI, Nat.reduceAdd, Nat.reduceEqDiff, not_false_eq_true, nI_T1, nI_T0, true_and, and_true, WC, WV, WU, hz, nI_addS]
      refine ih (z + 1) _ (fun q k hk => ?_) (rs_u2_eq _ _ _ _) ⟨j, ?_, j2, j3⟩ (by omega)
      · rw [rs_u2_ne _ _ hk]
        exact hf q k hk
      · rcases Nat.lt_or_ge z j with q | q
        · exact q
        · have : z = j := by omega
          subst this
          exact absurd j3 e
theorem s_layInverse (I : Nat → Nat → Int32) {a b : Nat} (ha : a < 2001) (hb1 : 1 ≤ b) (hb : b ≤ 2000) (hex : 1 < b → ∃ j, j < b ∧ j * a % b = 1) (hR : rInv (I 61 32) (I 61 33) (I 61 34)) (hQ : ∀ I' z, fX I I' → I' 61 32 = nI a → I' 61 33 = nI b → I' 61 34 = nI z → (b = 1 → z = 0) → (1 < b → z * a % b = 1 ∧ z < b) → Q (sk_w P n s I' J R) none) : rs_XM d yX12_layInverse [.ref 61, .int (nI a), .int (nI b)] (sk_w P n s I J R) Q := by
  have go : ¬ (I 61 32 = nI a ∧ I 61 33 = nI b) → rs_X d yX12_layInverse 16 [some (.ref 61), some (.int (nI a)), some (.int (nI b))] [] (sk_w P n s I J R) Q := fun _ => by
    simp (disch := omega) only [g_X12_layInverse_16, g_X12_layInverse_17, g_X12_layInverse_18, g_X12_layInverse_21, g_X12_layInverse_22, g_X12_layInverse_23, g_X12_layInverse_26, g_X12_layInverse_27, g_X12_layInverse_28, lk_X12_layInverse, XI, Nat.reduceAdd, Nat.reduceEqDiff, not_false_eq_true, nI_T1, nI_T0, true_and, and_true, WC, WV, WU]
    have f1 : fX I (rs_u2 (rs_u2 (rs_u2 I 61 32 (nI a)) 61 33 (nI b)) 61 34 (nI 0)) := fX_u (fX_u (fX_u (fX_r I) (by omega) _) (by omega) _) (by omega) _
    have e32 : rs_u2 (rs_u2 (rs_u2 I 61 32 (nI a)) 61 33 (nI b)) 61 34 (nI 0) 61 32 = nI a := by rw [rs_u2_ne _ _ (by omega), rs_u2_ne _ _ (by omega), rs_u2_eq]
    have e33 : rs_u2 (rs_u2 (rs_u2 I 61 32 (nI a)) 61 33 (nI b)) 61 34 (nI 0) 61 33 = nI b := by rw [rs_u2_ne _ _ (by omega), rs_u2_eq]
    by_cases e : 1 < b
    · obtain ⟨j, j1, j2⟩ := hex e
      refine X12_li_l P n s J R d Q ha e hb (rs_u2 (rs_u2 (rs_u2 I 61 32 (nI a)) 61 33 (nI b)) 61 34 (nI 0)) (fun I' z h1 h2 h3 h4 => ?_) b 0 _ (fun _ _ _ => rfl) (rs_u2_eq _ _ _ _) ⟨j, Nat.zero_le _, j1, j2⟩ (Nat.zero_add _)
      exact hQ I' z (fun q k hk => by rw [h1 q k (by omega), f1 q k hk]) (by rw [h1 61 32 (by omega), e32]) (by rw [h1 61 33 (by omega), e33]) h2 (fun y => by omega) (fun _ => ⟨h4, h3⟩)
    · rw [g_X12_layInverse_31]
      simp (disch := omega) only [g_X12_layInverse_32, g_X12_layInverse_33, lk_X12_layInverse, g_X12_layInverse_65, lk_X12_layInverse, XI, Nat.reduceAdd, Nat.reduceEqDiff, not_false_eq_true, nI_T1, nI_T0, true_and, and_true, WC, WV, WU, nI_leS]
      rw [if_pos (by omega)]
      exact hQ _ 0 f1 e32 e33 (rs_u2_eq _ _ _ _) (fun _ => rfl) (fun y => absurd y e)
  rw [em_X12_layInverse]
  simp (disch := omega) only [g_X12_layInverse_0, g_X12_layInverse_1, g_X12_layInverse_2, g_X12_layInverse_5, g_X12_layInverse_8, g_X12_layInverse_9, g_X12_layInverse_10, g_X12_layInverse_13, lk_X12_layInverse, g_X12_layInverse_65, lk_X12_layInverse, XI, Nat.reduceAdd, Nat.reduceEqDiff, not_false_eq_true, nI_T1, nI_T0, true_and, and_true, WC, WV, WU]
  by_cases e1 : nI a = I 61 32
  · rw [if_neg (fun y => y e1)]
    by_cases e2 : nI b = I 61 33
    · rw [if_pos e2]
      rcases hR with q | ⟨x, y, z, q1, q2, q3, q4, q5, q6, q7, q8, q9⟩
      · rw [q] at e2
        exact absurd e2 (fun y => nI_pos (n := b) (by omega) (by rw [y]; decide))
      · have ex : a = x := (nI_eqS (by omega) (by omega)).mp (e1.trans q1)
        have ey : b = y := (nI_eqS (by omega) (by omega)).mp (e2.trans q2)
        subst ex ey
        exact hQ I z (fX_r I) q1 q2 q3 q8 q9
    · rw [if_neg e2]
      exact go (fun y => e2 y.2.symm)
  · rw [if_pos e1]
    exact go (fun y => e1 y.1.symm)
theorem s_fewest_n (I : Nat → Nat → Int32) {x : Int64} (hx : lg_cmp x (lN 0) < 0) (a b : Int32) : rs_XM d yX12_fewest [.ref 61, .long x, .int a, .int b] (sk_w P n s I J R) Q ↔ Q (sk_w P n s I J R) (some (.long (-1))) := by
  rw [em_X12_fewest]
  have : ¬ 0 ≤ lg_cmp x (lN 0) := Int32.not_le.mpr hx
  simp (disch := omega) only [g_X12_fewest_0, g_X12_fewest_1, g_X12_fewest_2, g_X12_fewest_3, g_X12_fewest_6, g_X12_fewest_9, lk_X12_fewest, XI, Nat.reduceAdd, Nat.reduceEqDiff, not_false_eq_true, nI_T1, nI_T0, true_and, and_true, WC, WV, WU, this, if_false]
theorem s_fewest (I : Nat → Nat → Int32) {l zt zb : Nat} (hl : l < 1000000) (hzt : zt ≤ 2000) (hb1 : 1 ≤ zb) (hb : zb ≤ 2000) (hR : rInv (I 61 32) (I 61 33) (I 61 34)) (hQ : ∀ I' o, fX I I' → rInv (I' 61 32) (I' 61 33) (I' 61 34) → isFw l zt zb o → Q (sk_w P n s I' J R) (some (.long (oL o)))) : rs_XM (d + 2) yX12_fewest [.ref 61, .long (lN l), .int (nI zt), .int (nI zb)] (sk_w P n s I J R) Q := by
  have er := pk_lRem (a := l) (b := zb) (by omega) (by omega) (by omega)
  have hbn : ¬ lN zb = 0 := fun y => by
    have := (lN_inj (a := zb) (b := 0) (by omega) (by decide)).mp y
    omega
  have hmb : l % zb < zb := Nat.mod_lt _ hb1
  rw [em_X12_fewest]
  by_cases h0 : zt = 0
  · subst h0
    have hw := fw_ok (left := l) (zt := 0) (zb := zb) (inv := 0) hb1 (Or.inl rfl)
    have h2 := hQ I _ (fX_r I) hR hw
    unfold fwV at h2
    rw [if_pos rfl] at h2
    simp (disch := omega) only [g_X12_fewest_0, g_X12_fewest_1, g_X12_fewest_2, g_X12_fewest_3, g_X12_fewest_6, g_X12_fewest_9, g_X12_fewest_10, g_X12_fewest_11, g_X12_fewest_14, g_X12_fewest_15, g_X12_fewest_17, g_X12_fewest_18, g_X12_fewest_19, g_X12_fewest_20, g_X12_fewest_21, g_X12_fewest_24, g_X12_fewest_25, g_X12_fewest_28, g_X12_fewest_31, lk_X12_fewest, XI, Nat.reduceAdd, Nat.reduceEqDiff, not_false_eq_true, nI_T1, nI_T0, true_and, and_true, WC, WV, WU, lg_cmp_ge, pk_lLE, Nat.zero_le, if_true, nI_00, not_true_eq_false, if_false, nI_long, hbn, not_false_eq_true, true_and, er, lg_cmp_eq, lN_inj]
    by_cases e : l % zb = 0
    · rw [if_pos e] at h2
      simp only [e, not_true_eq_false, if_false]
      exact h2
    · rw [if_neg e] at h2
      simp only [e, not_false_eq_true, if_true]
      exact h2
  · have hg : 1 ≤ Nat.gcd zt zb := Nat.gcd_pos_of_pos_right zt hb1
    have hgb : Nat.gcd zt zb ≤ zb := Nat.le_of_dvd hb1 (Nat.gcd_dvd_right zt zb)
    have hcop := cop_d (zt := zt) hb1
    have hfw := fun inv => fw_ok (left := l) (zt := zt) (zb := zb) (inv := inv) hb1
    have hbd : 1 ≤ zb / Nat.gcd zt zb := Nat.div_pos hgb hg
    have hbl : zb / Nat.gcd zt zb ≤ zb := Nat.div_le_self _ _
    have htl : zt / Nat.gcd zt zb ≤ zt := Nat.div_le_self _ _
    have hll : l / Nat.gcd zt zb ≤ l := Nat.div_le_self _ _
    have ed1 := pk_div (a := zt) (d := Nat.gcd zt zb) (by omega) (by omega) (by omega)
    have ed2 := pk_div (a := zb) (d := Nat.gcd zt zb) (by omega) (by omega) (by omega)
    have ed3 := pk_lDiv (a := l) (b := Nat.gcd zt zb) (by omega) (by omega) (by omega)
    have eg := pk_lRem (a := l) (b := Nat.gcd zt zb) (by omega) (by omega) (by omega)
    unfold fwV at hfw
    simp only [h0, if_false, false_or] at hfw
    have hgn : ¬ nI (Nat.gcd zt zb) = 0 := fun y => by
      have := (nI_eq0S (n := Nat.gcd zt zb) (by omega)).mp y
      omega
    have hgl : ¬ lN (Nat.gcd zt zb) = 0 := fun y => by
      have := (lN_inj (a := Nat.gcd zt zb) (b := 0) (by omega) (by decide)).mp y
      omega
    have hmg : l % Nat.gcd zt zb < Nat.gcd zt zb := Nat.mod_lt _ hg
    simp (disch := omega) only [g_X12_fewest_0, g_X12_fewest_1, g_X12_fewest_2, g_X12_fewest_3, g_X12_fewest_6, g_X12_fewest_9, g_X12_fewest_10, g_X12_fewest_11, g_X12_fewest_14, g_X12_fewest_15, g_X12_fewest_17, g_X12_fewest_18, g_X12_fewest_19, g_X12_fewest_20, g_X12_fewest_21, g_X12_fewest_24, g_X12_fewest_25, g_X12_fewest_28, g_X12_fewest_31, g_X12_fewest_32, g_X12_fewest_33, g_X12_fewest_35, g_X12_fewest_38, g_X12_fewest_40, g_X12_fewest_41, g_X12_fewest_43, g_X12_fewest_44, g_X12_fewest_45, g_X12_fewest_46, g_X12_fewest_47, lk_X12_fewest, XI, Nat.reduceAdd, Nat.reduceEqDiff, not_false_eq_true, nI_T1, nI_T0, true_and, and_true, WC, WV, WU, lg_cmp_ge, pk_lLE, Nat.zero_le, if_true, nI_eq0S, h0, not_false_eq_true, s_X12_gcd, nI_long, hgl, true_and, eg, lg_cmp_eq, lN_inj]
    by_cases e : l % Nat.gcd zt zb = 0
    · simp only [e, if_true] at hfw
      rw [if_pos e]
      have er2 := pk_rem (a := zt / Nat.gcd zt zb) (d := zb / Nat.gcd zt zb) (by omega) (by omega) (by omega)
      simp (disch := omega) only [g_X12_fewest_54, g_X12_fewest_55, g_X12_fewest_56, g_X12_fewest_58, g_X12_fewest_59, g_X12_fewest_60, g_X12_fewest_62, g_X12_fewest_64, g_X12_fewest_65, g_X12_fewest_68, g_X12_fewest_69, g_X12_fewest_71, g_X12_fewest_73, g_X12_fewest_74, lk_X12_fewest, XI, Nat.reduceAdd, Nat.reduceEqDiff, not_false_eq_true, nI_T1, nI_T0, true_and, and_true, WC, WV, WU, hgn, not_false_eq_true, true_and, ed1, ed2]
      have emax : (if nI 1 < nI (zb / Nat.gcd zt zb) then nI (zb / Nat.gcd zt zb) else nI 1) = nI (zb / Nat.gcd zt zb) := by
        by_cases q : 1 < zb / Nat.gcd zt zb
        · rw [if_pos ((nI_ltS (by omega) (by omega)).mpr q)]
        · rw [if_neg (fun y => q ((nI_ltS (by omega) (by omega)).mp y)), show zb / Nat.gcd zt zb = 1 by omega]
      have hbg : ¬ nI (zb / Nat.gcd zt zb) = 0 := fun y => by
        have := (nI_eq0S (n := zb / Nat.gcd zt zb) (by omega)).mp y
        omega
      have hblg : ¬ lN (zb / Nat.gcd zt zb) = 0 := fun y => by
        have := (lN_inj (a := zb / Nat.gcd zt zb) (b := 0) (by omega) (by decide)).mp y
        omega
      rw [emax]
      refine ⟨hbg, ?_⟩
      rw [er2]
      have hlt := Nat.mod_lt (zt / Nat.gcd zt zb) hbd
      refine s_layInverse P n s J R (d + 1) _ I (by omega) hbd (by omega) (fun q => inv_ex q hcop) hR (fun I' z f1 i1 i2 i3 i4 i5 => ?_)
      have hR' : rInv (I' 61 32) (I' 61 33) (I' 61 34) := by
        by_cases q : 1 < zb / Nat.gcd zt zb
        · exact Or.inr ⟨_, _, _, i1, i2, i3, hbd, by omega, by omega, by have := (i5 q).2; omega, i4, i5⟩
        · exact Or.inr ⟨_, _, _, i1, i2, i3, hbd, by omega, by omega, by have := i4 (by omega); omega, i4, i5⟩
      have hfz := hfw z (by
        by_cases q : 1 < zb / Nat.gcd zt zb
        · exact Or.inr (i5 q).1
        · exact Or.inl (by omega))
      have hQ2 := hQ I' _ f1 hR' hfz
      have fin : ∀ few, few ≤ 2000 → Q (sk_w P n s I' J R) (some (.long (oL (if few * zt ≤ l then some few else none)))) → rs_X (d + 2) yX12_fewest 115 [some (.ref 61), some (.long (lN l)), none, some (.int (nI zt)), some (.int (nI zb)), some (.int (nI (Nat.gcd zt zb))), none, none] [.long (lN few)] (sk_w P n s I' J R) Q := fun few hf hq => by
        have hm : few * zt ≤ 2000 * 2000 := Nat.mul_le_mul hf hzt
        simp (disch := omega) only [g_X12_fewest_115, g_X12_fewest_117, g_X12_fewest_119, g_X12_fewest_120, g_X12_fewest_121, g_X12_fewest_122, g_X12_fewest_123, g_X12_fewest_124, g_X12_fewest_127, g_X12_fewest_129, g_X12_fewest_132, g_X12_fewest_135, lk_X12_fewest, XI, Nat.reduceAdd, Nat.reduceEqDiff, not_false_eq_true, nI_T1, nI_T0, true_and, and_true, WC, WV, WU, nI_long, lN_mul, lg_cmp_gt, pk_lLT, lg_cmp_le, pk_lLE]
        by_cases q : few * zt ≤ l
        · rw [if_pos q] at hq
          first | (rw [if_pos q]; exact hq) | (rw [if_neg (by omega)]; exact hq)
        · rw [if_neg q] at hq
          first | (rw [if_neg q]; exact hq) | (rw [if_pos (by omega)]; exact hq)
      by_cases q : zb / Nat.gcd zt zb = 1
      · simp only [q, if_true] at hQ2
        simp (disch := omega) only [g_X12_fewest_77, g_X12_fewest_79, g_X12_fewest_81, g_X12_fewest_82, g_X12_fewest_83, g_X12_fewest_86, g_X12_fewest_87, lk_X12_fewest, XI, Nat.reduceAdd, Nat.reduceEqDiff, not_false_eq_true, nI_T1, nI_T0, true_and, and_true, WC, WV, WU, hgn, not_false_eq_true, true_and, ed2, nI_eqS, q, not_true_eq_false, if_false]
        exact fin 0 (by omega) hQ2
      · simp only [q, if_false] at hQ2
        have z5 := (i5 (by omega)).2
        have hmm := Nat.mod_lt (l / Nat.gcd zt zb) hbd
        have hmz : l / Nat.gcd zt zb % (zb / Nat.gcd zt zb) * z ≤ 2000 * 2000 := Nat.mul_le_mul (by omega) (by omega)
        have r1 := pk_lRem (a := l / Nat.gcd zt zb) (b := zb / Nat.gcd zt zb) (by omega) hbd (by omega)
        have r2 := pk_lRem (a := l / Nat.gcd zt zb % (zb / Nat.gcd zt zb) * z) (b := zb / Nat.gcd zt zb) (by omega) hbd (by omega)
        have hfl := Nat.mod_lt (l / Nat.gcd zt zb % (zb / Nat.gcd zt zb) * z) hbd
        simp (disch := omega) only [g_X12_fewest_77, g_X12_fewest_79, g_X12_fewest_81, g_X12_fewest_82, g_X12_fewest_83, lk_X12_fewest, g_X12_fewest_90, g_X12_fewest_91, g_X12_fewest_93, g_X12_fewest_94, g_X12_fewest_95, g_X12_fewest_97, g_X12_fewest_99, g_X12_fewest_100, g_X12_fewest_101, g_X12_fewest_102, g_X12_fewest_103, g_X12_fewest_106, g_X12_fewest_107, g_X12_fewest_108, g_X12_fewest_110, g_X12_fewest_112, g_X12_fewest_113, g_X12_fewest_114, lk_X12_fewest, XI, Nat.reduceAdd, Nat.reduceEqDiff, not_false_eq_true, nI_T1, nI_T0, true_and, and_true, WC, WV, WU, hgn, hgl, hblg, not_false_eq_true, true_and, ed2, ed3, nI_eqS, q, if_true, nI_long, r1, i3, lN_mul, r2]
        exact fin _ (by omega) hQ2
    · simp only [e, if_false] at hfw
      rw [if_neg e]
      simp (disch := omega) only [g_X12_fewest_50, g_X12_fewest_53, lk_X12_fewest, XI, Nat.reduceAdd, Nat.reduceEqDiff, not_false_eq_true, nI_T1, nI_T0, true_and, and_true, WC, WV, WU]
      refine hQ I none (fX_r I) hR ?_
      by_cases q : zb / Nat.gcd zt zb = 1
      · exact hfw 0 (Or.inl q)
      · obtain ⟨j, j1, j2⟩ := inv_ex (t := zt / Nat.gcd zt zb) (b := zb / Nat.gcd zt zb) (by omega) hcop
        exact hfw j (Or.inr j2)
end
