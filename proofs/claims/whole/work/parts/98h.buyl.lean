/-! buying: the class's loop -/
section
variable (I : Nat → Nat → Int32) (J : Nat → Nat → Int64) (R : Nat → Nat → Option Nat) (d : Nat) (Q : rs_H → Option Value → Prop)
theorem X11_bu_l {P0 : Nat → Option rs_C} {n0 s0 q x a c e : Nat} {V Ua Ue : Nat → Value} {D : Dt} (hD : D.ok) {w : Nat → Nat × Nat × Nat × Nat} (hw : chs D w) (h84 : 84 ≤ n0) (hq : cSt P0 n0 q D) (hR : R 1 0 = some q) (h58 : ∀ i, i < 12 → I 58 i = nI (aG D w i)) (h49 : ∀ i, i < 12 → J 49 i = pkF (aftD D i)) (hcn : n0 ≤ c)
    (qF : ∀ P' n' s', (∀ j, j < n0 → P' j = P0 j) → n0 ≤ n' → n' ≤ n0 + 40 → s' ≤ s0 + 200 → (∃ i, i < 12 ∧ 999999 < stA D w i) → Q (sk_w P' n' s' I J R) (some (.int (-4))))
    (qE : ∀ P' n' s' Uc z3 z4 z5, (∀ j, j < n0 → P' j = P0 j) → n0 ≤ n' → n' ≤ n0 + 40 → s' ≤ s0 + 200 → oSt P' n' x a c e V Ua Uc Ue (buI D w 12) → (∀ i, i < 12 → stA D w i ≤ 999999) → rs_X (d + 60) yX11_buy 143 [some (.ref 1), some (.ref x), some (.int (nI 12)), z3, z4, z5] [] (sk_w P' n' s' I J R) Q) :
    ∀ (m k : Nat) (P : Nat → Option rs_C) (n s : Nat) (Uc : Nat → Value) (z3 z4 z5 : Option Value), k + m = 12 → (∀ j, j < n0 → P j = P0 j) → n = n0 + 4 + 3 * k → s = s0 + 31 + 14 * k → oSt P n x a c e V Ua Uc Ue (buI D w k) → (∀ i, i < k → stA D w i ≤ 999999) → rs_X (d + 60) yX11_buy 51 [some (.ref 1), some (.ref x), some (.int (nI k)), z3, z4, z5] [] (sk_w P n s I J R) Q := by
  intro m
  induction m with
  | zero =>
    intro k P n s Uc z3 z4 z5 hk hP hn hs ho hst
    have : k = 12 := by omega
    subst this
    rw [g_X11_buy_51]
    simp (disch := omega) only [g_X11_buy_52, g_X11_buy_54, lk_X11_buy, XI, Nat.reduceAdd, Nat.reduceEqDiff, not_false_eq_true, nI_T1, nI_T0, true_and, and_true, WC, WV, WU, nI_leS, Nat.le_refl, if_true]
    exact qE P n s Uc _ _ _ hP (by omega) (by omega) (by omega) ho hst
  | succ m ih =>
    intro k P n s Uc z3 z4 z5 hk hP hn hs ho hst
    have hk12 : k < 12 := by omega
    have hq2 := cSt_m hP (show n0 ≤ n by omega) hq
    obtain ⟨y, hy, cy⟩ := g_ingredientAt hq2 hk12
    have hg := hD.2.1 k hk12
    have hF := aftD_ok hD k hk12
    obtain ⟨b1, b2⟩ := stA_b hD hw hk12
    have hstk := hg.2.2.2.2.1
    obtain ⟨V2, a2, e2, Ua2, Uc2, g1, g2, g3, g4, v0, v1, v2, v3, v4, v5, v6, v7, g5⟩ := id hy
    have eup : ((aftD D k).1 + (aftD D k).2 - 1) / (aftD D k).2 = up1 (aftD D k) := rfl
    have hle := cmpS (c := (D.ig k).stk + aG D w k) (k := up1 (aftD D k)) (m := 999999) (by omega) (by omega) (by decide)
    have esub : (D.ig k).stk + aG D w k - up1 (aftD D k) = stA D w k := rfl
    rw [esub] at hle
    rw [g_X11_buy_51]
    simp (disch := omega) only [g_X11_buy_52, g_X11_buy_54, g_X11_buy_57, g_X11_buy_58, g_X11_buy_61, g_X11_buy_62, g_X11_buy_65, g_X11_buy_66, g_X11_buy_67, g_X11_buy_70, g_X11_buy_73, g_X11_buy_74, g_X11_buy_77, g_X11_buy_78, g_X11_buy_81, g_X11_buy_82, g_X11_buy_85, g_X11_buy_86, g_X11_buy_87, g_X11_buy_90, g_X11_buy_93, g_X11_buy_94, g_X11_buy_97, g_X11_buy_100, g_X11_buy_101, g_X11_buy_103, g_X11_buy_105, g_X11_buy_107, lk_X11_buy, XI, Nat.reduceAdd, Nat.reduceEqDiff, not_false_eq_true, nI_T1, nI_T0, true_and, and_true, WC, WV, WU, nI_leS, hR, va_rf, k_St P n s I J R hq2, cy, k_Ig P n s I J R hy, sk_cP n s I J R g1, v4, s_bought, h58 k hk12, su_at_48, h49 k hk12, s_X0_roundedUp _ _ _ hF, eup, nI_addS, hle]
    rw [if_neg (by omega)]
    by_cases hf : stA D w k ≤ 999999
    · rw [if_pos hf]
      simp (disch := omega) only [g_X11_buy_113, g_X11_buy_114, lk_X11_buy, XI, Nat.reduceAdd, Nat.reduceEqDiff, not_false_eq_true, nI_T1, nI_T0, true_and, and_true, WC, WV, WU, k_Ig P n s I J R hy]
      refine s_X1_copy n s I J R (d + 57) _ (by omega) hy hg ?_
      intro P1 V3 Ua3 Uc3 o1 p1
      have o2 := oIg_set (g' := (D.ig k).setSt (stA D w k)) o1 4 (.int (nI (stA D w k))) (by decide) (by decide) (by decide) rfl o1.2.2.2.2.1 o1.2.2.2.2.2.1 o1.2.2.2.2.2.2.1 o1.2.2.2.2.2.2.2.1 rfl
      have p2 : ∀ j, j < n → va_up P1 n (some (0, 8, va_up V3 4 (.int (nI (stA D w k))))) j = P j := fun j hj => by rw [vu_ne _ _ (by omega)]; exact p1 j hj
      have ho2 := oSt_m p2 (show n ≤ n + 3 by omega) ho
      have emx := max_sub2 (c := (D.ig k).stk + aG D w k) (k := up1 (aftD D k)) (by omega) (by omega)
      rw [esub] at emx
      simp (disch := omega) only [g_X11_buy_117, g_X11_buy_119, g_X11_buy_121, g_X11_buy_123, g_X11_buy_124, g_X11_buy_127, g_X11_buy_130, g_X11_buy_131, g_X11_buy_132, g_X11_buy_134, lk_X11_buy, XI, Nat.reduceAdd, Nat.reduceEqDiff, not_false_eq_true, nI_T1, nI_T0, true_and, and_true, WC, WV, WU, emx, sk_pool o1.1.2.1, sk_up_p o1.1.2.1, o1.1.2.2, k_oSt (n + 3) _ I J R ho2, k_Ig _ (n + 3) _ I J R (cIg_o.mpr ⟨_, _, _, _, _, o2⟩)]
      refine p_ingredient (n + 3) _ I J R _ _ ho2 (by omega) hk12 (cIg_o.mpr ⟨_, _, _, _, _, o2⟩) (fun o3 => ?_)
      simp (disch := omega) only [g_X11_buy_137, g_X11_buy_140, lk_X11_buy, XI, Nat.reduceAdd, Nat.reduceEqDiff, not_false_eq_true, nI_T1, nI_T0, true_and, and_true, WC, WV, WU, nI_addS]
      refine ih (k + 1) _ (n + 3) (s + 14) _ _ _ _ (by omega) (fun j hj => ?_) (by omega) (by omega) o3 (fun i hi => ?_)
      · rw [vu_ne _ _ (by omega), p2 j (by omega)]
        exact hP j hj
      · by_cases ei : i = k
        · rw [ei]; exact hf
        · exact hst i (by omega)
    · rw [if_neg hf]
      simp (disch := omega) only [g_X11_buy_110, g_X11_buy_112, lk_X11_buy, XI, Nat.reduceAdd, Nat.reduceEqDiff, not_false_eq_true, nI_T1, nI_T0, true_and, and_true, WC, WV, WU]
      exact qF P n s hP (by omega) (by omega) (by omega) ⟨k, hk12, by omega⟩
end
