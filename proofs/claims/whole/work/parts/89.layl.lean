/-! the reference lays the least sums of an ingredient's packs -/
def mPk (I : Nat → Nat → Int32) (i : Nat) (pk : List (Nat × Nat)) : Prop := I 62 (240 + 14 * i + 7) = nI pk.length ∧ ∀ k, k < pk.length → I 62 (240 + 14 * i + 8 + 2 * k) = nI (zP pk k) ∧ I 62 (240 + 14 * i + 8 + 2 * k + 1) = nI (rP pk k)
theorem mPk_of {I : Nat → Nat → Int32} {D : Dt} (hM : mDt (I 62) D) {i : Nat} (hi : i < 12) : mPk I i (D.ig i).pk := by
  obtain ⟨h1, h2, h3, h4, h5, h6, h7⟩ := hM.2.1 i hi
  refine ⟨h6, fun k hk => ?_⟩
  have e : (D.ig i).pk[k]? = some (D.ig i).pk[k] := List.getElem?_eq_getElem hk
  rw [zP_s e, rP_s e]
  exact h7 k _ e
theorem pkOk_of {D : Dt} (hD : D.ok) {i : Nat} (hi : i < 12) (h : ¬ (D.ig i).pk.length = 0) : pkOk (D.ig i).pk := ⟨by omega, (hD.2.1 i hi).2.2.2.2.2.1, (hD.2.1 i hi).2.2.2.2.2.2⟩
section
variable (P : Nat → Option rs_C) (n s : Nat) (I : Nat → Nat → Int32) (R : Nat → Nat → Option Nat) (d : Nat) (Q : rs_H → Option Value → Prop)
theorem X12_ap_o {z w : Nat} (hz1 : 1 ≤ z) (hz : z ≤ 2000) (hw1 : 1 ≤ w) (hw : w ≤ 2000) {V : Nat → Option Nat} (hV : bdV V 50000000) (J0 : Nat → Nat → Int64) (hQ : ∀ J', f78 J0 J' → mL J' z (adP z w V (Nat.gcd z w)) → Q (sk_w P n s I J' R) none) :
    ∀ (m k : Nat) (J : Nat → Nat → Int64) (z5 z6 z7 z8 z9 : Option Value), k + m = Nat.gcd z w → f78 J0 J → mL J z (adP z w V k) → rs_X d yX12_addPack 9 [some (.ref 61), some (.int (nI z)), some (.int (nI w)), some (.int (nI (Nat.gcd z w))), some (.int (nI k)), z5, z6, z7, z8, z9] [] (sk_w P n s I J R) Q := by
  have hg1 : 1 ≤ Nat.gcd z w := Nat.gcd_pos_of_pos_left w hz1
  have hgz : Nat.gcd z w ≤ z := Nat.le_of_dvd hz1 (Nat.gcd_dvd_left z w)
  have hm : z / Nat.gcd z w * Nat.gcd z w = z := Nat.div_mul_cancel (Nat.gcd_dvd_left z w)
  intro m
  induction m with
  | zero =>
    intro k J z5 z6 z7 z8 z9 hk hf hJ
    have : k = Nat.gcd z w := by omega
    subst this
    rw [g_X12_addPack_9]
    simp (disch := omega) only [g_X12_addPack_11, g_X12_addPack_12, lk_X12_addPack, g_X12_addPack_114, lk_X12_addPack, XI, Nat.reduceAdd, Nat.reduceEqDiff, not_false_eq_true, nI_T1, nI_T0, true_and, and_true, WC, WV, WU, nI_leS, Nat.le_refl, if_true]
    exact hQ J hf hJ
  | succ m ih =>
    intro k J z5 z6 z7 z8 z9 hk hf hJ
    have hb : bdV (adP z w V k) 100000000 := fun r v e => by
      have h1 := adP_bd (z := z) (w := w) hV k r v e
      have h2 : k * (2 * (z / Nat.gcd z w)) * w ≤ Nat.gcd z w * (2 * (z / Nat.gcd z w)) * 2000 := Nat.mul_le_mul (Nat.mul_le_mul_right _ (by omega)) hw
      rw [show Nat.gcd z w * (2 * (z / Nat.gcd z w)) = 2 * z by rw [Nat.mul_left_comm, Nat.mul_comm (Nat.gcd z w), hm]] at h2
      omega
    have hkz : (k + 0 * w) % z = k := by rw [Nat.zero_mul, Nat.add_zero]; exact Nat.mod_eq_of_lt (by omega)
    have h := X12_ap_i P n s I R d Q hz1 hz hw1 hw (ring := k) (by omega) hb J0 (fun J' z5 z6 z7 z8 z9 f1 m1 => by
      simp (disch := omega) only [g_X12_addPack_108, g_X12_addPack_111, lk_X12_addPack, XI, Nat.reduceAdd, Nat.reduceEqDiff, not_false_eq_true, nI_T1, nI_T0, true_and, and_true, WC, WV, WU, nI_addS]
      exact ih (k + 1) J' _ _ _ _ _ (by omega) f1 m1) (2 * (z / Nat.gcd z w)) 0 J z7 z8 z9 (Nat.zero_add _) hf hJ
    rw [hkz] at h
    rw [g_X12_addPack_9]
    simp (disch := omega) only [g_X12_addPack_11, g_X12_addPack_12, g_X12_addPack_15, g_X12_addPack_17, g_X12_addPack_19, g_X12_addPack_20, lk_X12_addPack, XI, Nat.reduceAdd, Nat.reduceEqDiff, not_false_eq_true, nI_T1, nI_T0, true_and, and_true, WC, WV, WU, nI_leS]
    rw [if_neg (by omega)]
    exact h
theorem r_addPack {z w : Nat} (hz1 : 1 ≤ z) (hz : z ≤ 2000) (hw1 : 1 ≤ w) (hw : w ≤ 2000) {V : Nat → Option Nat} (hV : bdV V 50000000) (J : Nat → Nat → Int64) (hJ : mL J z V) (hQ : ∀ J', f78 J J' → mL J' z (adP z w V (Nat.gcd z w)) → Q (sk_w P n s I J' R) none) : rs_XM (d + 1) yX12_addPack [.ref 61, .int (nI z), .int (nI w)] (sk_w P n s I J R) Q := by
  rw [em_X12_addPack]
  simp (disch := omega) only [g_X12_addPack_0, g_X12_addPack_1, g_X12_addPack_2, g_X12_addPack_5, g_X12_addPack_6, g_X12_addPack_7, lk_X12_addPack, XI, Nat.reduceAdd, Nat.reduceEqDiff, not_false_eq_true, nI_T1, nI_T0, true_and, and_true, WC, WV, WU, s_X12_gcd]
  exact X12_ap_o P n s I R (d + 1) Q hz1 hz hw1 hw hV J hQ (Nat.gcd z w) 0 J none none none none none (Nat.zero_add _) (f78_r J) hJ
theorem X12_ll_0 {i z : Nat} (hz : z ≤ 2000) (J0 : Nat → Nat → Int64) (hQ : ∀ J', f78 J0 J' → mL J' z V0 → rs_X d yX12_layLeast 37 [some (.ref 61), some (.int (nI i)), some (.int (nI z)), some (.int (nI z))] [] (sk_w P n s I J' R) Q) :
    ∀ (m k : Nat) (J : Nat → Nat → Int64), k + m = z → f78 J0 J → mL J k V0 → rs_X d yX12_layLeast 9 [some (.ref 61), some (.int (nI i)), some (.int (nI z)), some (.int (nI k))] [] (sk_w P n s I J R) Q := by
  intro m
  induction m with
  | zero =>
    intro k J hk hf hJ
    have : k = z := by omega
    subst this
    rw [g_X12_layLeast_9]
    simp (disch := omega) only [g_X12_layLeast_10, g_X12_layLeast_11, g_X12_layLeast_14, g_X12_layLeast_15, g_X12_layLeast_18, g_X12_layLeast_19, g_X12_layLeast_20, g_X12_layLeast_23, g_X12_layLeast_24, g_X12_layLeast_27, g_X12_layLeast_30, g_X12_layLeast_31, g_X12_layLeast_34, lk_X12_layLeast, XI, Nat.reduceAdd, Nat.reduceEqDiff, not_false_eq_true, nI_T1, nI_T0, true_and, and_true, WC, WV, WU, nI_leS, Nat.le_refl, if_true]
    exact hQ J hf hJ
  | succ m ih =>
    intro k J hk hf hJ
    have sto : ∀ v : Int64, v = oL (V0 k) → mL (rs_u2 J 78 k v) (k + 1) V0 := fun v hv r hr => by
      by_cases e : r = k
      · rw [e, rs_u2_eq, hv]
      · rw [rs_u2_ne _ _ (fun y => e y.2)]
        exact hJ r (by omega)
    rw [g_X12_layLeast_9]
    by_cases e : k = 0
    · have e0 : lN 0 = oL (V0 k) := by rw [e]; rfl
      simp (disch := omega) only [g_X12_layLeast_10, g_X12_layLeast_11, g_X12_layLeast_14, g_X12_layLeast_15, g_X12_layLeast_18, g_X12_layLeast_19, g_X12_layLeast_20, g_X12_layLeast_23, g_X12_layLeast_24, g_X12_layLeast_27, g_X12_layLeast_30, g_X12_layLeast_31, g_X12_layLeast_34, lk_X12_layLeast, XI, Nat.reduceAdd, Nat.reduceEqDiff, not_false_eq_true, nI_T1, nI_T0, true_and, and_true, WC, WV, WU, nI_leS, nI_eq0S, e, not_true_eq_false, if_false, nI_cl, rs_in_t, nI_addS]
      rw [if_neg (by omega)]
      rw [e] at sto e0 hk
      exact ih (0 + 1) _ (by omega) (f78_u hf _ _) (sto _ e0)
    · have e0 : (-1 : Int64) = oL (V0 k) := by
        have : V0 k = none := if_neg e
        rw [this]; rfl
      simp (disch := omega) only [g_X12_layLeast_10, g_X12_layLeast_11, g_X12_layLeast_14, g_X12_layLeast_15, g_X12_layLeast_18, g_X12_layLeast_19, g_X12_layLeast_20, g_X12_layLeast_23, g_X12_layLeast_24, g_X12_layLeast_27, g_X12_layLeast_30, g_X12_layLeast_31, g_X12_layLeast_34, lk_X12_layLeast, XI, Nat.reduceAdd, Nat.reduceEqDiff, not_false_eq_true, nI_T1, nI_T0, true_and, and_true, WC, WV, WU, nI_leS, nI_eq0S, e, not_false_eq_true, if_true, nI_cl, rs_in_t, nI_addS]
      rw [if_neg (by omega)]
      exact ih (k + 1) _ (by omega) (f78_u hf _ _) (sto _ e0)
theorem X12_ll_1 {i : Nat} (hi : i < 12) {pk : List (Nat × Nat)} (hp : pkOk pk) (hI : mPk I i pk) (J0 : Nat → Nat → Int64) (hQ : ∀ J', f78 J0 J' → mL J' (zP pk 0) (lyK pk (pk.length - 1)) → Q (sk_w P n s I J' R) none) :
    ∀ (m k : Nat) (J : Nat → Nat → Int64), k + 1 + m = pk.length → f78 J0 J → mL J (zP pk 0) (lyK pk k) → rs_X (d + 2) yX12_layLeast 39 [some (.ref 61), some (.int (nI i)), some (.int (nI (zP pk 0))), some (.int (nI (k + 1)))] [] (sk_w P n s I J R) Q := by
  have h3 := hp.2.1
  obtain ⟨z1, z2⟩ := zP_1 hp (show 0 < pk.length from hp.1)
  intro m
  induction m with
  | zero =>
    intro k J hk hf hJ
    have e : k = pk.length - 1 := by omega
    rw [g_X12_layLeast_39]
    simp (disch := omega) only [g_X12_layLeast_40, g_X12_layLeast_41, g_X12_layLeast_42, g_X12_layLeast_45, lk_X12_layLeast, g_X12_layLeast_65, lk_X12_layLeast, XI, Nat.reduceAdd, Nat.reduceEqDiff, not_false_eq_true, nI_T1, nI_T0, true_and, and_true, WC, WV, WU, s_X12_packs, hI.1, nI_leS]
    rw [if_pos (by omega)]
    rw [e] at hJ
    exact hQ J hf hJ
  | succ m ih =>
    intro k J hk hf hJ
    obtain ⟨w1, w2⟩ := zP_1 hp (show k + 1 < pk.length by omega)
    have e1 := (hI.2 (k + 1) (by omega)).1
    have hb : bdV (lyK pk k) 50000000 := fun r v e => by
      have := lyK_bd hp k (by omega) r v e
      omega
    rw [g_X12_layLeast_39]
    simp (disch := omega) only [g_X12_layLeast_40, g_X12_layLeast_41, g_X12_layLeast_42, g_X12_layLeast_45, g_X12_layLeast_48, g_X12_layLeast_49, g_X12_layLeast_50, g_X12_layLeast_51, g_X12_layLeast_52, g_X12_layLeast_53, g_X12_layLeast_56, lk_X12_layLeast, XI, Nat.reduceAdd, Nat.reduceEqDiff, not_false_eq_true, nI_T1, nI_T0, true_and, and_true, WC, WV, WU, s_X12_packs, hI.1, nI_leS, s_X12_sizeOf, e1]
    rw [if_neg (by omega)]
    refine r_addPack P n s I R d _ z1 z2 w1 w2 hb J hJ (fun J' f1 m1 => ?_)
    simp (disch := omega) only [g_X12_layLeast_59, g_X12_layLeast_62, lk_X12_layLeast, XI, Nat.reduceAdd, Nat.reduceEqDiff, not_false_eq_true, nI_T1, nI_T0, true_and, and_true, WC, WV, WU, nI_addS]
    exact ih (k + 1) J' (by omega) (f78_t hf f1) m1
theorem s_layLeast {i : Nat} (hi : i < 12) {pk : List (Nat × Nat)} (hp : pkOk pk) (hI : mPk I i pk) (J : Nat → Nat → Int64) (hQ : ∀ J', f78 J J' → mL J' (zP pk 0) (lyK pk (pk.length - 1)) → Q (sk_w P n s I J' R) none) : rs_XM (d + 2) yX12_layLeast [.ref 61, .int (nI i)] (sk_w P n s I J R) Q := by
  have h1 := hp.1
  obtain ⟨z1, z2⟩ := zP_1 hp (show 0 < pk.length from hp.1)
  have e0 := (hI.2 0 hp.1).1
  rw [em_X12_layLeast]
  simp (disch := omega) only [g_X12_layLeast_0, g_X12_layLeast_1, g_X12_layLeast_2, g_X12_layLeast_3, g_X12_layLeast_6, g_X12_layLeast_7, g_X12_layLeast_8, lk_X12_layLeast, XI, Nat.reduceAdd, Nat.reduceEqDiff, not_false_eq_true, nI_T1, nI_T0, true_and, and_true, WC, WV, WU, s_X12_sizeOf, e0]
  refine X12_ll_0 P n s I R (d + 2) Q z2 J (fun J' f1 m1 => ?_) (zP pk 0) 0 J (Nat.zero_add _) (f78_r J) (fun r h => absurd h (Nat.not_lt_zero r))
  simp (disch := omega) only [g_X12_layLeast_37, g_X12_layLeast_38, lk_X12_layLeast, XI, Nat.reduceAdd, Nat.reduceEqDiff, not_false_eq_true, nI_T1, nI_T0, true_and, and_true, WC, WV, WU]
  exact X12_ll_1 P n s I R d Q hi hp hI J hQ (pk.length - 1) 0 J' (by omega) f1 m1
end
