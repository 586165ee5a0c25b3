/-! the class's question for what is found again -/
theorem cpU_co {α : Type} (F : Nat → Nat → α) {a b : Nat} (m k : Nat) (f g : Nat → α) (h : ¬ a = b) : cpU (cpU F a 0 m f) b 0 k g = cpU (cpU F b 0 k g) a 0 m f := by
  funext x j
  unfold cpU
  by_cases e : x = a
  · subst e
    have e2 : ¬ (x = b ∧ 0 ≤ j ∧ j < k) := fun z => h z.1
    simp only [e2, if_false]
  · have e2 : ¬ (x = a ∧ 0 ≤ j ∧ j < m) := fun z => e z.1
    simp only [e2, if_false]
theorem AJ_0 (J : Nat → Nat → Int64) : cpU (cpU J 51 0 12 fun _ => pkF (0, 1)) 55 0 8 (fun _ => pkF (0, 1)) = AJ J S00 S00 := cpU_co J 12 8 _ _ (by decide)
def agV (D : Dt) (i w : Nat) : Int64 := match agD D (plD D) with
  | none => -9223372036854775808
  | some x => lN (if w = 0 then (x.2 i).1 else (x.2 i).2)
theorem whyD_g {D : Dt} (h : whyD D = 0) : ∃ p, D.pl = some p ∧ plD D = p ∧ gd D 8 p.1 := by
  cases hp : D.pl with
  | none => exact absurd hp (whyD_p h)
  | some p =>
    refine ⟨p, rfl, plD_s hp, ?_⟩
    rw [whyD_s hp] at h
    unfold whyP at h
    by_cases e : (fnd D p.1 p.2).1 = 0
    · exact fnd_gd e
    · rw [if_neg e] at h
      exact absurd h e
theorem agR_ok {D : Dt} (hD : D.ok) : ∀ (m W : Nat) (z x : (Nat → Nat × Nat) × (Nat → Nat × Nat)), zOk z → agR D m W z = some x → zOk x
  | 0, W, z, x, hz, h => by cases h; exact hz
  | m + 1, W, z, x, hz, h => by
    rw [agR_s] at h
    by_cases h0 : W = 0
    · rw [if_pos h0] at h
      cases h
      exact hz
    · rw [if_neg h0] at h
      cases hr : D.rc (nxD D W) with
      | none => rw [hr] at h; cases h
      | some Z =>
        rw [hr] at h
        dsimp only at h
        have hZ := hD.1 _ _ hr
        cases ha : agL D (z.1 (nxD D W)) Z.its z with
        | none => rw [ha] at h; cases h
        | some y =>
          rw [ha] at h
          exact agR_ok hD m _ y x (agL_ok hD (hz.1 _ hZ.1) Z.its z y (Rc.ok_mem hZ.2) hz ha) h
theorem zOk_0 {p : Nat} {f : Nat × Nat} (hf : isF f) : zOk (upS S00 p f, S00) := by
  refine ⟨fun i hi => ?_, S00_ok⟩
  show isF (upS S00 p f i)
  unfold upS
  split
  · exact hf
  · exact isF_01
section
variable (P : Nat → Option rs_C) (n s : Nat) (I : Nat → Nat → Int32) (J : Nat → Nat → Int64) (R : Nat → Nat → Option Nat) (d : Nat) (Q : rs_H → Option Value → Prop)
theorem X3_fa_l {b q : Nat} {D : Dt} (hq : cSt P b q D) (hD : D.ok) (x2 : Int32) : ∀ (m k W : Nat) (F S : Nat → Nat × Nat) (z5 z6 : Option Value), k + m = 8 → W < 256 → gds D W → zOk (F, S) →
    (∀ x, agR D m W (F, S) = some x → Q (sk_w P n s I (AJ J x.1 x.2) R) (some (.int (nI 1)))) → (agR D m W (F, S) = none → ∀ F' S', Q (sk_w P n s I (AJ J F' S') R) (some (.int (nI 0)))) →
    rs_X (d + 8) yX3_findAgain 44 [some (.ref 45), some (.ref q), some (.int x2), some (.int (nI W)), some (.int (nI k)), z5, z6] [] (sk_w P n s I (AJ J F S) R) Q := by
  intro m
  induction m with
  | zero =>
    intro k W F S z5 z6 hk hW hg hz q1 q0
    have : k = 8 := by omega
    subst this
    rw [g_X3_findAgain_44]
    simp (disch := omega) only [g_X3_findAgain_46, g_X3_findAgain_48, lk_X3_findAgain, g_X3_findAgain_102, g_X3_findAgain_103, lk_X3_findAgain, XI, Nat.reduceAdd, Nat.reduceEqDiff, not_false_eq_true, nI_T1, nI_T0, true_and, and_true, WC, WV, WU, nI_leS, Nat.le_refl, if_true]
    exact q1 (F, S) rfl
  | succ m ih =>
    intro k W F S z5 z6 hk hW hg hz q1 q0
    rw [agR_s] at q1 q0
    rw [g_X3_findAgain_44]
    by_cases h0 : W = 0
    · subst h0
      rw [if_pos rfl] at q1
      simp (disch := omega) only [g_X3_findAgain_46, g_X3_findAgain_48, g_X3_findAgain_51, g_X3_findAgain_52, lk_X3_findAgain, g_X3_findAgain_102, g_X3_findAgain_103, lk_X3_findAgain, XI, Nat.reduceAdd, Nat.reduceEqDiff, not_false_eq_true, nI_T1, nI_T0, true_and, and_true, WC, WV, WU, nI_leS, nI_00, if_true]
      rw [if_neg (by omega)]
      exact q1 (F, S) rfl
    · rw [if_neg h0] at q1 q0
      obtain ⟨n8, nb, Z, hz2⟩ := nxD_ok hW h0 hg
      rw [hz2] at q1 q0
      dsimp only at q1 q0
      obtain ⟨y, hy, cy⟩ := g_recipeAt_s hq n8 hz2
      have ep := pow_lt8 n8
      simp (disch := omega) only [g_X3_findAgain_46, g_X3_findAgain_48, g_X3_findAgain_51, g_X3_findAgain_52, g_X3_findAgain_55, g_X3_findAgain_56, g_X3_findAgain_57, g_X3_findAgain_60, g_X3_findAgain_62, g_X3_findAgain_63, g_X3_findAgain_65, g_X3_findAgain_68, g_X3_findAgain_70, g_X3_findAgain_72, g_X3_findAgain_75, g_X3_findAgain_76, g_X3_findAgain_77, g_X3_findAgain_79, lk_X3_findAgain, XI, Nat.reduceAdd, Nat.reduceEqDiff, not_false_eq_true, nI_T1, nI_T0, true_and, and_true, WC, WV, WU, nI_leS, nI_eq0S, h0, if_false, k_St P n s I _ R hq, s_low P n s I _ R _ _ hq hD hW n8, cy, k_Rc P n s I _ R hy]
      rw [if_neg (by omega)]
      refine s_goT P n s I J R (d + 1) _ hq hD hz2 n8 hy hz (fun x hx => ?_) (fun hx F' S' => ?_)
      · rw [hx] at q1 q0
        simp (disch := omega) only [g_X3_findAgain_82, g_X3_findAgain_85, g_X3_findAgain_86, g_X3_findAgain_87, g_X3_findAgain_88, g_X3_findAgain_89, g_X3_findAgain_91, g_X3_findAgain_92, g_X3_findAgain_93, g_X3_findAgain_94, g_X3_findAgain_95, g_X3_findAgain_96, g_X3_findAgain_99, lk_X3_findAgain, XI, Nat.reduceAdd, Nat.reduceEqDiff, not_false_eq_true, nI_T1, nI_T0, true_and, and_true, WC, WV, WU, nI_11, true_or, not_true_eq_false, nI_10f, not_false_eq_true, if_true, if_false, bt_shl, Nat.one_mul, clr_e W hW _ n8, nI_addS]
        exact ih (k + 1) _ x.1 x.2 _ _ (by omega) (clr_pc W hW _ n8 nb).2 (clr_gds hg) (agL_ok hD (hz.1 _ n8) Z.its _ x (Rc.ok_mem (hD.1 _ _ hz2).2) hz hx) q1 q0
      · rw [hx] at q0
        simp (disch := omega) only [g_X3_findAgain_82, g_X3_findAgain_85, g_X3_findAgain_86, lk_X3_findAgain, XI, Nat.reduceAdd, Nat.reduceEqDiff, not_false_eq_true, nI_T1, nI_T0, true_and, and_true, WC, WV, WU, nI_00, true_or, true_and, not_true_eq_false, if_true, if_false]
        exact q0 rfl F' S'
theorem s_findAgain {b q : Nat} {D : Dt} (hq : cSt P b q D) (hD : D.ok) {p : Nat × (Nat × Nat)} (hp : D.pl = some p) (hg : gd D 8 p.1)
    (q1 : ∀ x, agD D p = some x → Q (sk_w P n s I (AJ J x.1 x.2) R) (some (.int (nI 1)))) (q0 : agD D p = none → ∀ F' S', Q (sk_w P n s I (AJ J F' S') R) (some (.int (nI 0)))) : rs_XM (d + 8) yX3_findAgain [.ref 45, .ref q] (sk_w P n s I J R) Q := by
  have p8 := (hD.2.2.2.2 p.1 p.2 hp).1
  have pF := (hD.2.2.2.2 p.1 p.2 hp).2.1
  have ep := pow_lt8 p8
  have hc := conD_le hD p.1
  rw [em_X3_findAgain]
  simp (disch := omega) only [g_X3_findAgain_0, g_X3_findAgain_1, g_X3_findAgain_4, g_X3_findAgain_5, g_X3_findAgain_6, g_X3_findAgain_9, g_X3_findAgain_12, g_X3_findAgain_13, g_X3_findAgain_16, g_X3_findAgain_19, g_X3_findAgain_20, g_X3_findAgain_23, g_X3_findAgain_24, g_X3_findAgain_25, g_X3_findAgain_28, g_X3_findAgain_31, g_X3_findAgain_32, g_X3_findAgain_33, g_X3_findAgain_34, g_X3_findAgain_35, g_X3_findAgain_36, g_X3_findAgain_39, g_X3_findAgain_40, g_X3_findAgain_41, g_X3_findAgain_42, lk_X3_findAgain, XI, Nat.reduceAdd, Nat.reduceEqDiff, not_false_eq_true, nI_T1, nI_T0, true_and, and_true, WC, WV, WU, k_St P n s I _ R hq, g_planRecipe n s I _ R _ _ hq hp, su_clear_50, su_clear_54, g_planFactor n s I _ R _ _ hq hp, su_put_54, AJ_0, AJ_u55 J S00 S00 p8, s_within P n s I _ R _ _ hq hD p8, bt_shl, Nat.one_mul, bt_or]
  exact X3_fa_l P n s I J R d Q hq hD _ 8 0 _ _ _ none none rfl (or_lt8 ep hc) (gds_all hg) (zOk_0 pF) q1 q0
end
