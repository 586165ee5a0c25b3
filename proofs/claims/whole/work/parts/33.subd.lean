/-! the class's substitutions, one after another -/
def sbo1 (D : Dt) (k : Nat) (t : Sb) (S T : Nat → Nat × Nat) (A : Nat) : Nat × (Nat → Nat × Nat) × (Nat → Nat × Nat) × Nat := if hol D t S = true then (match fr ((S t.x).1 - kep D t * (S t.x).2) (S t.x).2 with
    | none => (0, S, T, A)
    | some w => match adO (S t.y) (omul (some w) (fr t.up t.dn)) with
      | none => (5, upS S t.x (kep D t, 1), upS T k w, A ||| 2 ^ k)
      | some p => (0, upS (upS S t.x (kep D t, 1)) t.y p, upS T k w, A ||| 2 ^ k))
  else (0, S, T, A)
def sboL (D : Dt) : List Sb → Nat → (Nat → Nat × Nat) → (Nat → Nat × Nat) → Nat → Nat × (Nat → Nat × Nat) × (Nat → Nat × Nat) × Nat
  | [], _, S, T, A => (0, S, T, A)
  | t :: ts, k, S, T, A => if (sbo1 D k t S T A).1 = 0 then sboL D ts (k + 1) (sbo1 D k t S T A).2.1 (sbo1 D k t S T A).2.2.1 (sbo1 D k t S T A).2.2.2 else sbo1 D k t S T A
theorem fr_less {q : Nat × Nat} (hq : isF q) (k : Nat) : ∃ w, fr (q.1 - k) q.2 = some w := by
  unfold fr
  have h1 := hq.1
  have h3 := hq.2.2.1
  have h4 : (q.1 - k) / Nat.gcd (q.1 - k) q.2 ≤ q.1 - k := Nat.div_le_self _ _
  have h5 : q.2 / Nat.gcd (q.1 - k) q.2 ≤ q.2 := Nat.div_le_self _ _
  rw [if_pos (by omega)]
  exact ⟨_, rfl⟩
theorem hol_le {D : Dt} {t : Sb} {S : Nat → Nat × Nat} (h : hol D t S = true) : kep D t * (S t.x).2 ≤ (S t.x).1 := by
  unfold kep
  unfold hol at h
  by_cases e3 : t.ki = 3
  · rw [if_neg (by omega), if_neg (by omega), if_pos e3] at h
    rw [if_pos e3]
    exact Nat.le_of_lt (of_decide_eq_true h)
  · rw [if_neg e3, Nat.zero_mul]
    exact Nat.zero_le _
theorem isF_w {k : Nat} (h : k ≤ 999999) : isF (k, 1) := ⟨show k ≤ 1000000000 by omega, Nat.le_refl _, show 1 ≤ 1000000000 by decide, Nat.gcd_one_right k⟩
theorem kep_le {D : Dt} (hD : D.ok) {t : Sb} (ht : t.ok) : kep D t ≤ 999999 := by
  unfold kep
  split
  · exact (hD.2.1 t.x ht.1).2.2.2.2.1
  · omega
theorem fr_w {k : Nat} (h : k ≤ 999999) : fr k 1 = some (k, 1) := fr_self (isF_w h)
theorem upS_eq (S : Nat → Nat × Nat) (i : Nat) (q : Nat × Nat) : upS S i q i = q := if_pos rfl
theorem upS_ne (S : Nat → Nat × Nat) {i j : Nat} (q : Nat × Nat) (h : ¬ j = i) : upS S i q j = S j := if_neg h
theorem upS_ok {S : Nat → Nat × Nat} (hS : stOk S) (i : Nat) {q : Nat × Nat} (hq : isF q) : stOk (upS S i q) := by
  intro j hj
  unfold upS
  split
  · exact hq
  · exact hS j hj
section
variable (P : Nat → Option rs_C) (n s : Nat) (I : Nat → Nat → Int32) (J : Nat → Nat → Int64) (R : Nat → Nat → Option Nat) (d : Nat) (Q : rs_H → Option Value → Prop)
theorem s_replaceOne {b q k : Nat} {D : Dt} {t : Sb} (hq : cSt P b q D) (hD : D.ok) (hk : k < 6) (hs : D.sb[k]? = some t) {S T : Nat → Nat × Nat} (hS : stOk S) {A : Nat} (hA : A < 64) : rs_XM (d + 5) yX3_replaceOne [.ref 45, .ref q, .int (nI k)] (sk_w P n s (rs_u2 I 45 5 (nI A)) (jS (jS J 49 12 S) 53 6 T) R) Q ↔ Q (sk_w P n s (rs_u2 I 45 5 (nI (sbo1 D k t S T A).2.2.2)) (jS (jS J 49 12 (sbo1 D k t S T A).2.1) 53 6 (sbo1 D k t S T A).2.2.1) R) (some (.int (nI (sbo1 D k t S T A).1))) := by
  have ht := hD.2.2.2.1 k t hs
  have hx12 := ht.1
  have hy12 := ht.2.1
  have hxy := ht.2.2.1
  obtain ⟨x, hx, cx⟩ := g_substitutionAt_s hq hk hs
  obtain ⟨y, hy, cy⟩ := g_ingredientAt hq hx12
  obtain ⟨V, h1, v0, v1, v2, v3, v4⟩ := id hx
  have hke := kep_le hD ht
  have hup := ht.2.2.2.1
  have hfr : okO (fr t.up t.dn) := fun q e => fr_isF ht.2.2.2.2.2.1 e
  have e1 : 2 ^ k < 2 ^ 6 := Nat.pow_lt_pow_right (by decide) hk
  have e2 : A ||| 2 ^ k < 2 ^ 6 := Nat.or_lt_two_pow (by omega) e1
  rw [em_X3_replaceOne]
  unfold sbo1
  simp (disch := omega) only [g_X3_replaceOne_0, g_X3_replaceOne_1, g_X3_replaceOne_2, g_X3_replaceOne_5, g_X3_replaceOne_6, g_X3_replaceOne_7, g_X3_replaceOne_10, g_X3_replaceOne_11, g_X3_replaceOne_12, g_X3_replaceOne_13, g_X3_replaceOne_14, g_X3_replaceOne_17, g_X3_replaceOne_20, g_X3_replaceOne_22, g_X3_replaceOne_23, g_X3_replaceOne_26, g_X3_replaceOne_27, g_X3_replaceOne_30, g_X3_replaceOne_33, g_X3_replaceOne_35, g_X3_replaceOne_37, g_X3_replaceOne_40, g_X3_replaceOne_41, g_X3_replaceOne_43, g_X3_replaceOne_45, g_X3_replaceOne_48, g_X3_replaceOne_51, lk_X3_replaceOne, XI, Nat.reduceAdd, Nat.reduceEqDiff, not_false_eq_true, nI_T1, nI_T0, true_and, and_true, WC, WV, WU, cx, cy, k_St P n s _ _ R hq, k_Sb P n s _ _ R hx, sk_cP n s _ _ R h1, v0, su_at_48, jS_ne, jS_at, s_holds P n s _ _ R _ _ hx hy hD ht hS, rs_b_0]
  by_cases hh : hol D t S = true
  · obtain ⟨w, hw⟩ := fr_less (hS t.x hx12) (kep D t * (S t.x).2)
    have hwF := fr_isF (hS t.x hx12).2.1 hw
    have hle := hol_le hh
    have ho := omul_ok (okO_s hwF) hfr
    simp (disch := omega) only [hh, hw, if_true, not_true_eq_false, not_false_eq_true, if_false, g_X3_replaceOne_52, g_X3_replaceOne_53, g_X3_replaceOne_54, g_X3_replaceOne_56, g_X3_replaceOne_59, g_X3_replaceOne_61, g_X3_replaceOne_63, g_X3_replaceOne_65, g_X3_replaceOne_68, g_X3_replaceOne_70, g_X3_replaceOne_71, g_X3_replaceOne_72, g_X3_replaceOne_75, g_X3_replaceOne_76, g_X3_replaceOne_77, g_X3_replaceOne_78, g_X3_replaceOne_79, g_X3_replaceOne_82, g_X3_replaceOne_83, g_X3_replaceOne_86, g_X3_replaceOne_87, g_X3_replaceOne_89, g_X3_replaceOne_92, g_X3_replaceOne_93, g_X3_replaceOne_96, g_X3_replaceOne_97, g_X3_replaceOne_100, g_X3_replaceOne_102, g_X3_replaceOne_103, g_X3_replaceOne_104, g_X3_replaceOne_107, g_X3_replaceOne_110, g_X3_replaceOne_111, g_X3_replaceOne_114, g_X3_replaceOne_115, g_X3_replaceOne_118, g_X3_replaceOne_120, g_X3_replaceOne_121, g_X3_replaceOne_124, g_X3_replaceOne_127, g_X3_replaceOne_130, lk_X3_replaceOne, XI, Nat.reduceAdd, Nat.reduceEqDiff, not_false_eq_true, nI_T1, nI_T0, true_and, and_true, WC, WV, WU, k_Sb P n s _ _ R hx, sk_cP n s _ _ R h1, v0, v1, v2, s_kept P n s _ _ R _ _ hx hy ht, s_X0_lessWhole _ _ _ (hS t.x hx12) (show kep D t ≤ 1000000 by omega) hle, rs_u2_eq, bt_shl, bt_or, Nat.one_mul, rs_u2_u2, su_put_52]
    simp (disch := omega) only [nI_long (show kep D t ≤ 1000000000 by omega), s_X0_of _ _ _ (show kep D t < 2 ^ 63 by omega) (Nat.le_refl 1) (show 1 ≤ 1000000000000000000 by decide), fr_w hke, pkO_s, jS_u _ _ _ _ hk, g_X3_replaceOne_107, g_X3_replaceOne_110, g_X3_replaceOne_111, g_X3_replaceOne_114, g_X3_replaceOne_115, g_X3_replaceOne_118, g_X3_replaceOne_120, g_X3_replaceOne_121, g_X3_replaceOne_124, g_X3_replaceOne_127, g_X3_replaceOne_130, lk_X3_replaceOne, XI, Nat.reduceAdd, Nat.reduceEqDiff, not_false_eq_true, nI_T1, nI_T0, true_and, and_true, WC, WV, WU, su_put_48, jS_c, jS_u _ _ _ _ hx12, sk_cP n s _ _ R h1, v1, v2]
    simp (disch := omega) only [← pkO_s w, s_X0_product _ _ _ (okO_s hwF) hfr, g_X3_replaceOne_127, g_X3_replaceOne_130, lk_X3_replaceOne, XI, Nat.reduceAdd, Nat.reduceEqDiff, not_false_eq_true, nI_T1, nI_T0, true_and, and_true, WC, WV, WU]
    have hy0 : jS (jS J 49 12 (upS S t.x (kep D t, 1))) 53 6 (upS T k w) 49 t.y = pkF (S t.y) := by
      rw [jS_ne _ _ _ _ _ (by decide), jS_at _ _ _ _ hy12, upS_ne _ _ (fun z => hxy z.symm)]
    cases ha : adO (S t.y) (omul (some w) (fr t.up t.dn)) with
    | none => simp (disch := omega) only [g_X3_replaceOne_127, g_X3_replaceOne_130, lk_X3_replaceOne, XI, Nat.reduceAdd, Nat.reduceEqDiff, not_false_eq_true, nI_T1, nI_T0, true_and, and_true, WC, WV, WU, su_add_48_n P n s _ _ R _ _ hy12 hy0 (hS t.y hy12) ho ha]
    | some p => simp (disch := omega) only [g_X3_replaceOne_127, g_X3_replaceOne_130, lk_X3_replaceOne, XI, Nat.reduceAdd, Nat.reduceEqDiff, not_false_eq_true, nI_T1, nI_T0, true_and, and_true, WC, WV, WU, su_add_48_s P n s _ _ R _ _ hy12 hy0 (hS t.y hy12) ho ha, jS_c, jS_u _ _ _ _ hy12]
  · simp (disch := omega) only [hh, Bool.false_eq_true, if_false, not_false_eq_true, if_true, not_true_eq_false, g_X3_replaceOne_51, g_X3_replaceOne_52, lk_X3_replaceOne, XI, Nat.reduceAdd, Nat.reduceEqDiff, not_false_eq_true, nI_T1, nI_T0, true_and, and_true, WC, WV, WU]
end
