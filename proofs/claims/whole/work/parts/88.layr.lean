/-! the reference lays the least sums -/
def oL (o : Option Nat) : Int64 := match o with
  | none => -1
  | some v => lN v
def mL (J : Nat → Nat → Int64) (z : Nat) (V : Nat → Option Nat) : Prop := ∀ r, r < z → J 78 r = oL (V r)
def f78 (J J' : Nat → Nat → Int64) : Prop := ∀ q j, ¬ q = 78 → J' q j = J q j
theorem f78_r (J : Nat → Nat → Int64) : f78 J J := fun _ _ _ => rfl
theorem f78_t {J J' J2 : Nat → Nat → Int64} (h : f78 J J') (h2 : f78 J' J2) : f78 J J2 := fun q j a => (h2 q j a).trans (h q j a)
theorem f78_u {J J' : Nat → Nat → Int64} (h : f78 J J') (i : Nat) (v : Int64) : f78 J (rs_u2 J' 78 i v) := fun q j a => by rw [rs_u2_ne _ _ (fun z => a z.1)]; exact h q j a
theorem oL_lt (o : Option Nat) {m : Nat} (h : ∀ v, o = some v → v ≤ m) (hm : m < 9223372036854775808) : (oL o < lN 0) ↔ o = none := by
  cases o with
  | none => exact ⟨fun _ => rfl, fun _ => by decide⟩
  | some v =>
    have := h v rfl
    refine ⟨fun z => ?_, fun z => by cases z⟩
    have := (pk_lLT (a := v) (b := 0) (by omega) (by decide)).mp z
    omega
section
variable (P : Nat → Option rs_C) (n s : Nat) (I : Nat → Nat → Int32) (R : Nat → Nat → Option Nat) (d : Nat) (Q : rs_H → Option Value → Prop)
theorem X12_gcd_l (w : rs_H) (x0 x1 : Int32) : ∀ (m b a : Nat) (z4 : Option Value), b ≤ m → a < 1073741824 → b < 1073741824 → (rs_X d yX12_gcd 4 [some (.int x0), some (.int x1), some (.int (nI a)), some (.int (nI b)), z4] [] w Q ↔ Q w (some (.int (nI (Nat.gcd b a))))) := by
  intro m
  induction m with
  | zero =>
    intro b a z4 hm ha hb
    have : b = 0 := by omega
    subst this
    rw [g_X12_gcd_4]
    simp (disch := omega) only [g_X12_gcd_5, lk_X12_gcd, g_X12_gcd_21, g_X12_gcd_22, lk_X12_gcd, XI, Nat.reduceAdd, Nat.reduceEqDiff, not_false_eq_true, nI_T1, nI_T0, true_and, and_true, nI_00, if_true, Nat.gcd_zero_left]
  | succ m ih =>
    intro b a z4 hm ha hb
    rw [g_X12_gcd_4]
    by_cases h0 : b = 0
    · subst h0
      simp (disch := omega) only [g_X12_gcd_5, lk_X12_gcd, g_X12_gcd_21, g_X12_gcd_22, lk_X12_gcd, XI, Nat.reduceAdd, Nat.reduceEqDiff, not_false_eq_true, nI_T1, nI_T0, true_and, and_true, nI_00, if_true, Nat.gcd_zero_left]
    · have hr := Nat.mod_lt a (Nat.pos_of_ne_zero h0)
      have e := pk_rem (a := a) (d := b) (by omega) (by omega) (by omega)
      simp (disch := omega) only [g_X12_gcd_5, g_X12_gcd_8, g_X12_gcd_9, g_X12_gcd_10, g_X12_gcd_11, g_X12_gcd_13, g_X12_gcd_14, g_X12_gcd_15, g_X12_gcd_17, g_X12_gcd_18, lk_X12_gcd, XI, Nat.reduceAdd, Nat.reduceEqDiff, not_false_eq_true, nI_T1, nI_T0, true_and, and_true, nI_eq0S, h0, if_false, not_false_eq_true, true_and, e]
      rw [ih (a % b) b _ (by omega) hb (by omega), ← Nat.gcd_rec]
theorem s_X12_gcd (w : rs_H) {a b : Nat} (ha : a < 1073741824) (hb : b < 1073741824) : rs_XM d yX12_gcd [.int (nI a), .int (nI b)] w Q ↔ Q w (some (.int (nI (Nat.gcd a b)))) := by
  rw [em_X12_gcd]
  simp (disch := omega) only [g_X12_gcd_0, g_X12_gcd_1, g_X12_gcd_2, g_X12_gcd_3, lk_X12_gcd, XI, Nat.reduceAdd, Nat.reduceEqDiff, not_false_eq_true, nI_T1, nI_T0, true_and, and_true]
  rw [X12_gcd_l d Q w _ _ b b a none (Nat.le_refl b) ha hb, Nat.gcd_comm]
theorem X12_ap_i {z w : Nat} (hz1 : 1 ≤ z) (hz : z ≤ 2000) (hw1 : 1 ≤ w) (hw : w ≤ 2000) {ring : Nat} (hr : ring < Nat.gcd z w) {V : Nat → Option Nat} (hV : bdV V 100000000) (J0 : Nat → Nat → Int64) (hQ : ∀ J' z5 z6 z7 z8 z9, f78 J0 J' → mL J' z (rW z w ring V (2 * (z / Nat.gcd z w))) → rs_X d yX12_addPack 108 [some (.ref 61), some (.int (nI z)), some (.int (nI w)), some (.int (nI (Nat.gcd z w))), some (.int (nI ring)), z5, z6, z7, z8, z9] [] (sk_w P n s I J' R) Q) :
    ∀ (m k : Nat) (J : Nat → Nat → Int64) (z7 z8 z9 : Option Value), k + m = 2 * (z / Nat.gcd z w) → f78 J0 J → mL J z (rW z w ring V k) → rs_X d yX12_addPack 22 [some (.ref 61), some (.int (nI z)), some (.int (nI w)), some (.int (nI (Nat.gcd z w))), some (.int (nI ring)), some (.int (nI ((ring + k * w) % z))), some (.int (nI k)), z7, z8, z9] [] (sk_w P n s I J R) Q := by
  have hg1 : 1 ≤ Nat.gcd z w := Nat.gcd_pos_of_pos_left w hz1
  have hgz : Nat.gcd z w ≤ z := Nat.le_of_dvd hz1 (Nat.gcd_dvd_left z w)
  have hdz : z / Nat.gcd z w ≤ z := Nat.div_le_self _ _
  have edv := pk_div (a := z) (d := Nat.gcd z w) (by omega) (by omega) (by omega)
  have hgn : ¬ nI (Nat.gcd z w) = 0 := fun y => by
    have := (nI_eq0S (n := Nat.gcd z w) (by omega)).mp y
    omega
  intro m
  induction m with
  | zero =>
    intro k J z7 z8 z9 hk hf hm
    have : k = 2 * (z / Nat.gcd z w) := by omega
    subst this
    rw [g_X12_addPack_22]
    simp (disch := omega) only [g_X12_addPack_24, g_X12_addPack_25, g_X12_addPack_26, g_X12_addPack_27, g_X12_addPack_28, g_X12_addPack_29, lk_X12_addPack, XI, Nat.reduceAdd, Nat.reduceEqDiff, not_false_eq_true, nI_T1, nI_T0, true_and, and_true, WC, WV, WU, edv, hgn, not_false_eq_true, true_and, nI_mulS, nI_leS, Nat.le_refl, if_true]
    exact hQ _ _ _ _ _ _ hf hm
  | succ m ih =>
    intro k J z7 z8 z9 hk hf hm
    have hkw : k * w ≤ 4000 * 2000 := Nat.mul_le_mul (by omega) hw
    have hbd := rW_bd (z := z) (w := w) hV ring k
    have hp := pos_s z w ring k
    have hrl : (ring + k * w) % z < z := Nat.mod_lt _ hz1
    have hnl : ((ring + k * w) % z + w) % z < z := Nat.mod_lt _ hz1
    have ez := pk_rem (a := (ring + k * w) % z + w) (d := z) (by omega) (by omega) (by omega)
    have hzn : ¬ nI z = 0 := fun y => by
      have := (nI_eq0S (n := z) (by omega)).mp y
      omega
    have h1 := hm _ hrl
    have h2 := hm _ hnl
    rw [g_X12_addPack_22]
    simp (disch := omega) only [g_X12_addPack_24, g_X12_addPack_25, g_X12_addPack_26, g_X12_addPack_27, g_X12_addPack_28, g_X12_addPack_29, g_X12_addPack_32, g_X12_addPack_34, g_X12_addPack_35, g_X12_addPack_36, g_X12_addPack_37, g_X12_addPack_38, g_X12_addPack_40, g_X12_addPack_41, g_X12_addPack_44, g_X12_addPack_46, g_X12_addPack_47, g_X12_addPack_48, g_X12_addPack_49, g_X12_addPack_50, g_X12_addPack_52, g_X12_addPack_53, g_X12_addPack_56, g_X12_addPack_58, g_X12_addPack_59, g_X12_addPack_60, g_X12_addPack_61, lk_X12_addPack, XI, Nat.reduceAdd, Nat.reduceEqDiff, not_false_eq_true, nI_T1, nI_T0, true_and, and_true, WC, WV, WU, edv, hgn, hzn, not_false_eq_true, true_and, nI_mulS, nI_addS, nI_leS, nI_cl, rs_in_t, ez, h1, nI_long]
    rw [if_neg (by omega)]
    have hih := fun J' z7 z8 z9 => ih (k + 1) J' z7 z8 z9 (by omega)
    rw [rW_s, ← pos_s] at hih
    generalize rW z w ring V k = U at hm hbd h1 h2 hih
    generalize (ring + k * w) % z = r at hrl hnl h1 h2 hih ez
    have big : ∀ x v, U x = some v → v ≤ 108000000 := fun x v e => by have := hbd x v e; omega
    have c1 : (lg_cmp (oL (U r)) (lN 0) < 0) ↔ U r = none := by rw [lg_cmp_lt]; exact oL_lt _ (big r) (by decide)
    have c2 : (lg_cmp (oL (U ((r + w) % z))) (lN 0) < 0) ↔ U ((r + w) % z) = none := by rw [lg_cmp_lt]; exact oL_lt _ (big _) (by decide)
    simp only [c1]
    unfold rlx at hih
    cases hu : U r with
    | none =>
      rw [hu] at hih
      simp (disch := omega) only [if_true, g_X12_addPack_98, g_X12_addPack_100, g_X12_addPack_102, g_X12_addPack_105, lk_X12_addPack, XI, Nat.reduceAdd, Nat.reduceEqDiff, not_false_eq_true, nI_T1, nI_T0, true_and, and_true, WC, WV, WU, nI_addS]
      exact hih J _ _ _ hf hm
    | some v =>
      rw [hu] at hih
      dsimp only at hih
      have hv := big r v hu
      have sto : mL (rs_u2 J 78 ((r + w) % z) (lN (v + w))) z (upV U ((r + w) % z) (v + w)) := fun x hx => by
        unfold upV
        by_cases e : x = (r + w) % z
        · rw [if_pos e, e, rs_u2_eq]
          rfl
        · rw [if_neg e, rs_u2_ne _ _ (fun y => e y.2)]
          exact hm x hx
      have e1 : oL (some v) = lN v := rfl
      rw [if_neg (fun y => by cases y), e1]
      simp (disch := omega) only [g_X12_addPack_64, g_X12_addPack_65, g_X12_addPack_68, g_X12_addPack_70, g_X12_addPack_71, g_X12_addPack_72, g_X12_addPack_73, lk_X12_addPack, XI, Nat.reduceAdd, Nat.reduceEqDiff, not_false_eq_true, nI_T1, nI_T0, true_and, and_true, WC, WV, WU, nI_cl, rs_in_t, h2]
      simp only [c2]
      cases hn : U ((r + w) % z) with
      | none =>
        rw [hn] at hih
        simp (disch := omega) only [if_true, g_X12_addPack_89, g_X12_addPack_90, g_X12_addPack_93, g_X12_addPack_95, g_X12_addPack_97, g_X12_addPack_98, g_X12_addPack_100, g_X12_addPack_102, g_X12_addPack_105, lk_X12_addPack, XI, Nat.reduceAdd, Nat.reduceEqDiff, not_false_eq_true, nI_T1, nI_T0, true_and, and_true, WC, WV, WU, nI_cl, rs_in_t, lN_add, nI_addS]
        exact hih _ _ _ _ (f78_u hf _ _) sto
      | some u =>
        have hub := big _ u hn
        rw [hn] at hih h2
        dsimp only at hih
        have e2 : oL (some u) = lN u := rfl
        rw [if_neg (fun y => by cases y)]
        rw [e2] at h2
        simp (disch := omega) only [g_X12_addPack_76, g_X12_addPack_78, g_X12_addPack_79, g_X12_addPack_82, g_X12_addPack_84, g_X12_addPack_85, g_X12_addPack_86, lk_X12_addPack, XI, Nat.reduceAdd, Nat.reduceEqDiff, not_false_eq_true, nI_T1, nI_T0, true_and, and_true, WC, WV, WU, nI_cl, rs_in_t, h2, lN_add, lg_cmp_ge, pk_lLE]
        by_cases el : v + w < u
        · rw [if_pos el] at hih
          rw [if_neg (by omega)]
          simp (disch := omega) only [g_X12_addPack_89, g_X12_addPack_90, g_X12_addPack_93, g_X12_addPack_95, g_X12_addPack_97, g_X12_addPack_98, g_X12_addPack_100, g_X12_addPack_102, g_X12_addPack_105, lk_X12_addPack, XI, Nat.reduceAdd, Nat.reduceEqDiff, not_false_eq_true, nI_T1, nI_T0, true_and, and_true, WC, WV, WU, nI_cl, rs_in_t, nI_addS]
          exact hih _ _ _ _ (f78_u hf _ _) sto
        · rw [if_neg el] at hih
          rw [if_pos (by omega)]
          simp (disch := omega) only [g_X12_addPack_98, g_X12_addPack_100, g_X12_addPack_102, g_X12_addPack_105, lk_X12_addPack, XI, Nat.reduceAdd, Nat.reduceEqDiff, not_false_eq_true, nI_T1, nI_T0, true_and, and_true, WC, WV, WU, nI_addS]
          exact hih J _ _ _ hf hm
end
