/-! the class: what a recipe needs, and the substitutions -/
def S00 : Nat → Nat × Nat := fun _ => (0, 1)
theorem S00_ok : stOk S00 := fun _ _ => isF_01
/-- what a recipe needs, or the reason why not -/
def fnd (D : Dt) (r : Nat) (f : Nat × Nat) : Nat × ((Nat → Nat × Nat) × Nat) := match D.rc r with
  | none => (1, (S00, 0))
  | some Z => wk D 8 (2 ^ r) Z f (S00, 0)
theorem fnd_ok {D : Dt} (hD : D.ok) (r : Nat) {f : Nat × Nat} (hf : isF f) : wkG (fnd D r f) := by
  unfold fnd
  cases h : D.rc r with
  | none => exact ⟨show 1 ≤ 6 by decide, S00_ok, fun _ => Nat.zero_le _⟩
  | some Z => exact wk_ok hD 8 _ r Z f S00 0 (hD.1 _ _ h).2 hf S00_ok (by decide)
theorem jS_c (J : Nat → Nat → Int64) (a m : Nat) (T : Nat → Nat × Nat) {a' : Nat} (i : Nat) (v : Int64) (h : ¬ a' = a) : rs_u2 (jS J a m T) a' i v = jS (rs_u2 J a' i v) a m T := by
  funext x j
  unfold jS cpU rs_u2
  dsimp only
  by_cases h1 : x = a'
  · have h2 : ¬ (x = a ∧ 0 ≤ j ∧ j < m) := fun z => h (h1 ▸ z.1)
    rw [if_neg h2, if_neg h2]
  · rw [if_neg h1, if_neg h1]
theorem rs_b_T [Decidable True] : rs_b True = nI 1 := rs_b_t trivial
theorem jS_ne (J : Nat → Nat → Int64) (a m : Nat) (T : Nat → Nat × Nat) {a' : Nat} (i : Nat) (h : ¬ a' = a) : jS J a m T a' i = J a' i := cpU_ne _ _ _ _ _ _ h
/-- whether a substitution's condition holds -/
def hol (D : Dt) (t : Sb) (S : Nat → Nat × Nat) : Bool := if t.ki = 1 then ((D.ig t.x).con ||| (D.ig t.x).tra).testBit t.va else if t.ki = 2 then decide (t.va * (S t.x).2 < (S t.x).1) else if t.ki = 3 then decide ((D.ig t.x).stk * (S t.x).2 < (S t.x).1) else true
def kep (D : Dt) (t : Sb) : Nat := if t.ki = 3 then (D.ig t.x).stk else 0
section
variable (P : Nat → Option rs_C) (n s : Nat) (I : Nat → Nat → Int32) (J : Nat → Nat → Int64) (R : Nat → Nat → Option Nat) (d : Nat) (Q : rs_H → Option Value → Prop)
theorem s_find {b q r : Nat} {D : Dt} (hq : cSt P b q D) (hD : D.ok) (hr : r < 8) {f : Nat × Nat} (hf : isF f) (hd : 22 ≤ d) : rs_XM d yX3_find [.ref 45, .ref q, .int (nI r), .long (pkF f)] (sk_w P n s I J R) Q ↔ Q (sk_w P n s (rs_u2 I 45 6 (nI (fnd D r f).2.2)) (jS J 47 12 (fnd D r f).2.1) R) (some (.int (nI (fnd D r f).1))) := by
  obtain ⟨d2, rfl⟩ : ∃ d2, d = d2 + 1 := ⟨d - 1, by omega⟩
  rw [em_X3_find]
  have e0 : (cpU J 47 0 12 fun _ => pkF (0, 1)) = jS J 47 12 S00 := rfl
  simp (disch := omega) only [K_X3_find, lk_X3_find, XI, Nat.reduceAdd, Nat.reduceEqDiff, not_false_eq_true, nI_T1, nI_T0, true_and, and_true, WC, WV, WU, su_clear_46, e0, k_St P n s _ _ R hq]
  unfold fnd
  cases h : D.rc r with
  | none => simp (disch := omega) only [g_recipeAt_n n s _ _ R hq hr h, K_X3_find, lk_X3_find, XI, Nat.reduceAdd, Nat.reduceEqDiff, not_false_eq_true, nI_T1, nI_T0, true_and, and_true, WC, WV, WU]
  | some Z =>
    obtain ⟨y, hy, cy⟩ := g_recipeAt_s hq hr h
    have e1 : 2 ^ r < 2 ^ 8 := Nat.pow_lt_pow_right (by decide) hr
    simp (disch := omega) only [cy, K_X3_find, lk_X3_find, XI, Nat.reduceAdd, Nat.reduceEqDiff, not_false_eq_true, nI_T1, nI_T0, true_and, and_true, WC, WV, WU, bt_shl, Nat.one_mul]
    have hw := s_walk P hq hD 8 (by decide) d2 n s I J R
    rw [show nI 1 = nI (9 - 8) from rfl, hw _ (2 ^ r) y r Z f S00 0 e1 hy (hD.1 _ _ h).2 hf S00_ok (by decide) (by omega)]
    simp (disch := omega) only [K_X3_find, lk_X3_find, XI, Nat.reduceAdd, Nat.reduceEqDiff, not_false_eq_true, nI_T1, nI_T0, true_and, and_true, WC, WV, WU]
theorem s_holds {b x y : Nat} {D : Dt} {t : Sb} (hx : cSb P b x t) (hy : cIg P b y (D.ig t.x)) (hD : D.ok) (ht : t.ok) {S : Nat → Nat × Nat} (hS : stOk S) : rs_XM (d + 2) yX8_holds [.ref x, .ref y, .long (pkF (S t.x))] (sk_w P n s I J R) Q ↔ Q (sk_w P n s I J R) (some (.int (rs_b (hol D t S = true)))) := by
  obtain ⟨V, h1, v0, v1, v2, v3, v4⟩ := hx
  obtain ⟨V2, a', c', Ua, Uc, g1, g2, g3, g4, w0, w1, w2, w3, w4, w5, w6, w7, g5⟩ := id hy
  have hg := hD.2.1 t.x ht.1
  have hf := hS t.x ht.1
  have hk := ht.2.2.2.2.2.2.2.1
  have hs := hg.2.2.2.2.1
  have hv := ht.2.2.2.2.2.2.2.2.1
  have hv1 := ht.2.2.2.2.2.2.2.2.2.1
  rw [em_X8_holds]
  unfold hol
  simp (disch := omega) only [K_X8_holds, lk_X8_holds, XI, Nat.reduceAdd, Nat.reduceEqDiff, not_false_eq_true, nI_T1, nI_T0, true_and, and_true, WC, WV, WU, sk_cP n s I J R h1, sk_cP n s I J R g1, v3, v4, w4, nI_eqS, s_X0_isAbove _ _ _ hf, k_Ig P n s _ _ R hy]
  by_cases e1 : t.ki = 1
  · have := hv1 e1
    simp (disch := omega) only [e1, if_true, g_concerns n s I J R _ _ hy hg, K_X8_holds, lk_X8_holds, XI, Nat.reduceAdd, Nat.reduceEqDiff, not_false_eq_true, nI_T1, nI_T0, true_and, and_true, WC, WV, WU, rs_b_ok]
  · by_cases e2 : t.ki = 2
    · simp (disch := omega) only [e1, e2, if_true, if_false, Nat.reduceEqDiff, K_X8_holds, lk_X8_holds, XI, Nat.reduceAdd, Nat.reduceEqDiff, not_false_eq_true, nI_T1, nI_T0, true_and, and_true, WC, WV, WU, rs_b_ok, decide_eq_true_eq]
    · by_cases e3 : t.ki = 3
      · simp (disch := omega) only [e1, e2, e3, if_true, if_false, Nat.reduceEqDiff, K_X8_holds, lk_X8_holds, XI, Nat.reduceAdd, Nat.reduceEqDiff, not_false_eq_true, nI_T1, nI_T0, true_and, and_true, WC, WV, WU, rs_b_ok, decide_eq_true_eq]
      · simp (disch := omega) only [e1, e2, e3, if_true, if_false, Nat.reduceEqDiff, K_X8_holds, lk_X8_holds, XI, Nat.reduceAdd, Nat.reduceEqDiff, not_false_eq_true, nI_T1, nI_T0, true_and, and_true, WC, WV, WU, rs_b_T]
theorem s_kept {b x y : Nat} {D : Dt} {t : Sb} (hx : cSb P b x t) (hy : cIg P b y (D.ig t.x)) (ht : t.ok) : rs_XM d yX8_kept [.ref x, .ref y] (sk_w P n s I J R) Q ↔ Q (sk_w P n s I J R) (some (.int (nI (kep D t)))) := by
  obtain ⟨V, h1, v0, v1, v2, v3, v4⟩ := hx
  obtain ⟨V2, a', c', Ua, Uc, g1, g2, g3, g4, w0, w1, w2, w3, w4, w5, w6, w7, g5⟩ := id hy
  have hk := ht.2.2.2.2.2.2.2.1
  rw [em_X8_kept]
  unfold kep
  simp (disch := omega) only [K_X8_kept, lk_X8_kept, XI, Nat.reduceAdd, Nat.reduceEqDiff, not_false_eq_true, nI_T1, nI_T0, true_and, and_true, WC, WV, WU, sk_cP n s I J R h1, sk_cP n s I J R g1, v3, w4, nI_eqS]
  by_cases e3 : t.ki = 3
  · simp only [e3, not_true_eq_false, if_true, if_false]
  · simp only [e3, not_false_eq_true, if_true, if_false]
end
