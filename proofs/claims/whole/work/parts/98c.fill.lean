/-! the whole shopping: what it comes to; the class -/
def cov (D : Dt) (i : Nat) : Prop := ¬ lkD D i = 0 ∧ 0 < (D.ig i).pk.length ∧ lkD D i ≤ 5000
def covB (D : Dt) (i : Nat) : Bool := decide (¬ lkD D i = 0 ∧ 0 < (D.ig i).pk.length ∧ lkD D i ≤ 5000)
theorem covB_i (D : Dt) (i : Nat) : covB D i = true ↔ cov D i := decide_eq_true_iff
def fA (D : Dt) (f : Nat → Nat) (i : Nat) : Nat := if covB D i = true then f i else 0
theorem fA_t {D : Dt} {f : Nat → Nat} {i : Nat} (h : cov D i) : fA D f i = f i := if_pos ((covB_i D i).mpr h)
theorem fA_f {D : Dt} {f : Nat → Nat} {i : Nat} (h : ¬ cov D i) : fA D f i = 0 := if_neg (fun z => h ((covB_i D i).mp z))
def bK (p : Nat → Bool) : Nat → Nat
  | 0 => 0
  | k + 1 => if p k = true then bK p k ||| 2 ^ k else bK p k
theorem bK_s (p : Nat → Bool) (k : Nat) : bK p (k + 1) = if p k = true then bK p k ||| 2 ^ k else bK p k := rfl
theorem bK_le (p : Nat → Bool) : ∀ k, k ≤ 12 → bK p k < 4096
  | 0, _ => show 0 < 4096 by decide
  | k + 1, h => by
    rw [bK_s]
    split
    · exact or_lt12 (bK_le p k (by omega)) (pow_lt12 (by omega))
    · exact bK_le p k (by omega)
def lkB (D : Dt) (i : Nat) : Bool := decide (¬ lkD D i = 0)
def unB (D : Dt) (i : Nat) : Bool := decide (¬ lkD D i = 0 ∧ ¬ (0 < (D.ig i).pk.length ∧ lkD D i ≤ 5000))
/-- the choices -/
def chs (D : Dt) (w : Nat → Nat × Nat × Nat × Nat) : Prop := ∀ i, i < 12 → cov D i → Bst (D.ig i).pk (lkD D i) (w i).1 (w i).2.1 (w i).2.2.1 (w i).2.2.2
theorem chs_ex {D : Dt} (hD : D.ok) : ∃ w, chs D w := by
  have h : ∀ i, ∃ x : Nat × Nat × Nat × Nat, i < 12 → cov D i → Bst (D.ig i).pk (lkD D i) x.1 x.2.1 x.2.2.1 x.2.2.2 := fun i => by
    by_cases c : i < 12 ∧ cov D i
    · obtain ⟨B, a, b, e, hb⟩ := Bst_ex (pkOk_of hD c.1 (by have := c.2.2.1; omega)) (lkD D i)
      exact ⟨(B, a, b, e), fun _ _ => hb⟩
    · exact ⟨(0, 0, 0, 0), fun h1 h2 => absurd ⟨h1, h2⟩ c⟩
  obtain ⟨f, hf⟩ := Classical.axiomOfChoice h
  exact ⟨f, hf⟩
def aP (D : Dt) (w : Nat → Nat × Nat × Nat × Nat) : Nat → Nat := fA D fun i => prc (D.ig i).pk (w i).2.1 (w i).2.2.1 (w i).2.2.2
def aW (D : Dt) (w : Nat → Nat × Nat × Nat × Nat) : Nat → Nat := fA D fun i => (w i).1 - lkD D i
def aG (D : Dt) (w : Nat → Nat × Nat × Nat × Nat) : Nat → Nat := fA D fun i => (w i).1
theorem aG_le {D : Dt} {w : Nat → Nat × Nat × Nat × Nat} (hw : chs D w) {i : Nat} (hi : i < 12) : aG D w i < 7000 ∧ aW D w i < 7000 := by
  by_cases c : cov D i
  · have hb := hw i hi c
    have := hb.2.1
    have := c.2.2
    unfold aG aW
    rw [fA_t c, fA_t c]
    omega
  · unfold aG aW
    rw [fA_f c, fA_f c]
    omega
theorem aP_le {D : Dt} (hD : D.ok) {w : Nat → Nat × Nat × Nat × Nat} (hw : chs D w) {i : Nat} (hi : i < 12) : aP D w i ≤ 6993000 := by
  by_cases c : cov D i
  · have hb := hw i hi c
    have h1 := hb.2.1
    have h2 := c.2.2
    have h3 := prc_le (pkOk_of hD hi (by have := c.2.1; omega)) hb.2.2.2.1
    unfold aP
    rw [fA_t c]
    omega
  · unfold aP
    rw [fA_f c]
    omega
theorem sK_le {f : Nat → Nat} {m : Nat} (h : ∀ i, i < 12 → f i ≤ m) : ∀ k, k ≤ 12 → sK f k ≤ k * m
  | 0, _ => by rw [Nat.zero_mul]; exact Nat.le_refl 0
  | k + 1, hk => by
    have := sK_le h k (by omega)
    have := h k (by omega)
    rw [sK_s, Nat.succ_mul]
    omega
/-- the class's sums after so many ingredients -/
def cA (D : Dt) (w : Nat → Nat × Nat × Nat × Nat) (I : Nat → Nat → Int32) (k : Nat) : Prop := I 56 5 = nI (sK (aP D w) k) ∧ I 56 6 = nI (sK (aW D w) k) ∧ I 56 7 = nI (sK (aG D w) k) ∧ I 56 8 = nI (bK (lkB D) k) ∧ I 56 9 = nI (bK (unB D) k) ∧ ∀ j, j < k → I 58 j = nI (aG D w j)
def fF (I I' : Nat → Nat → Int32) : Prop := ∀ q j, ¬ q = 56 → ¬ q = 58 → I' q j = I q j
def fG (J J' : Nat → Nat → Int64) : Prop := ∀ q j, ¬ q = 56 → ¬ q = 57 → J' q j = J q j
theorem lkB_i (D : Dt) (i : Nat) : lkB D i = true ↔ ¬ lkD D i = 0 := decide_eq_true_iff
theorem unB_i (D : Dt) (i : Nat) : unB D i = true ↔ ¬ lkD D i = 0 ∧ ¬ (0 < (D.ig i).pk.length ∧ lkD D i ≤ 5000) := decide_eq_true_iff
section
variable (P : Nat → Option rs_C) (n s : Nat) (R : Nat → Nat → Option Nat) (d : Nat) (Q : rs_H → Option Value → Prop)
theorem s_fillOne (I : Nat → Nat → Int32) (J : Nat → Nat → Int64) {D : Dt} (hD : D.ok) {w : Nat → Nat × Nat × Nat × Nat} (hw : chs D w) {b y k : Nat} (hk : k < 12) (hy : cIg P b y (D.ig k)) (hA : cA D w I k) (hQ : ∀ I' J', fF I I' → fG J J' → I' 56 5 = nI (sK (aP D w) (k + 1)) → I' 56 6 = nI (sK (aW D w) (k + 1)) → I' 56 7 = nI (sK (aG D w) (k + 1)) → I' 56 8 = nI (bK (lkB D) (k + 1)) → I' 56 9 = nI (bK (unB D) (k + 1)) → (∀ j, I' 58 j = I 58 j) → Q (sk_w P n s I' J' R) (some (.int (nI (aG D w k))))) : rs_XM (d + 4) yX6_fillOne [.ref 56, .int (nI k), .ref y, .long (pkF (aftD D k))] (sk_w P n s I J R) Q := by
  obtain ⟨a5, a6, a7, a8, a9, a10⟩ := hA
  have hg := hD.2.1 k hk
  have hF := aftD_ok hD k hk
  have hl9 := lkD_le hD hk
  have l1 := bK_le (lkB D) k (by omega)
  have l2 := bK_le (unB D) k (by omega)
  have ep := pow_lt12 hk
  have s1 := sK_le (fun i hi => aP_le hD hw hi) k (by omega)
  have s2 := sK_le (f := aW D w) (m := 7000) (fun i hi => by have := (aG_le hw hi).2; omega) k (by omega)
  have s3 := sK_le (f := aG D w) (m := 7000) (fun i hi => by have := (aG_le hw hi).1; omega) k (by omega)
  have elk : up1 (aftD D k) - (D.ig k).stk = lkD D k := rfl
  simp only [sK_s, bK_s] at hQ
  rw [em_X6_fillOne]
  simp (disch := omega) only [g_X6_fillOne_0, g_X6_fillOne_1, g_X6_fillOne_2, g_X6_fillOne_5, g_X6_fillOne_7, g_X6_fillOne_9, lk_X6_fillOne, XI, Nat.reduceAdd, Nat.reduceEqDiff, not_false_eq_true, nI_T1, nI_T0, true_and, and_true, WC, WV, WU, k_Ig P n s I J R hy, g_lack n s I J R _ _ hy hg hF, elk, nI_eq0S]
  by_cases h0 : lkD D k = 0
  · have nc : ¬ cov D k := fun z => z.1 h0
    have e1 : aP D w k = 0 := fA_f nc
    have e2 : aW D w k = 0 := fA_f nc
    have e3 : aG D w k = 0 := fA_f nc
    have e4 : ¬ lkB D k = true := fun z => (lkB_i D k).mp z h0
    have e5 : ¬ unB D k = true := fun z => ((unB_i D k).mp z).1 h0
    rw [if_neg e4, if_neg e5, e1, e2, e3] at hQ
    simp (disch := omega) only [h0, not_true_eq_false, if_false, g_X6_fillOne_12, g_X6_fillOne_13, lk_X6_fillOne, XI, Nat.reduceAdd, Nat.reduceEqDiff, not_false_eq_true, nI_T1, nI_T0, true_and, and_true, WC, WV, WU]
    exact hQ I J (fun _ _ _ _ => rfl) (fun _ _ _ _ => rfl) a5 a6 a7 a8 a9 (fun _ => rfl)
  · have e4 : lkB D k = true := (lkB_i D k).mpr h0
    rw [if_pos e4] at hQ
    simp (disch := omega) only [h0, not_false_eq_true, if_true, g_X6_fillOne_14, g_X6_fillOne_15, g_X6_fillOne_16, g_X6_fillOne_19, g_X6_fillOne_20, g_X6_fillOne_21, g_X6_fillOne_22, g_X6_fillOne_23, g_X6_fillOne_26, g_X6_fillOne_27, g_X6_fillOne_29, lk_X6_fillOne, XI, Nat.reduceAdd, Nat.reduceEqDiff, not_false_eq_true, nI_T1, nI_T0, true_and, and_true, WC, WV, WU, rs_b_0, rs_b_ok2, true_or, or_true, Classical.not_not, not_true_eq_false, if_true, if_false, reduceCtorEq, a8, bt_shl, Nat.one_mul, bt_or, k_Ig P n s _ J R hy, g_hasPacksFor n s _ J R _ _ hy hg]
    by_cases hc : 0 < (D.ig k).pk.length ∧ lkD D k ≤ 5000
    · have hcv : cov D k := ⟨h0, hc⟩
      have hp := pkOk_of hD hk (by omega)
      have hb := hw k hk hcv
      have hb1 := hb.1
      have hb2 := hb.2.1
      have hb4 := hb.2.2.2.1
      have e1 : aP D w k = prc (D.ig k).pk (w k).2.1 (w k).2.2.1 (w k).2.2.2 := fA_t hcv
      have e2 : aW D w k = (w k).1 - lkD D k := fA_t hcv
      have e3 : aG D w k = (w k).1 := fA_t hcv
      have e5 : ¬ unB D k = true := fun z => ((unB_i D k).mp z).2 hc
      have hpl := prc_le hp hb4
      rw [if_neg e5, e1, e2, e3] at hQ
      simp (disch := omega) only [g_X6_fillOne_32, g_X6_fillOne_35, g_X6_fillOne_36, g_X6_fillOne_37, g_X6_fillOne_40, g_X6_fillOne_41, g_X6_fillOne_42, g_X6_fillOne_43, g_X6_fillOne_44, g_X6_fillOne_47, g_X6_fillOne_48, g_X6_fillOne_49, g_X6_fillOne_50, g_X6_fillOne_51, g_X6_fillOne_53, lk_X6_fillOne, XI, Nat.reduceAdd, Nat.reduceEqDiff, not_false_eq_true, nI_T1, nI_T0, true_and, and_true, WC, WV, WU, rs_b_0, rs_b_ok2, true_or, or_true, Classical.not_not, not_true_eq_false, if_true, if_false, reduceCtorEq, hc, and_self]
      refine s_choose P n s _ J R d _ hy hp (by omega) hc.2 hb (fun J2 hj2 => ?_)
      have j1 : rs_u2 J2 56 1 (lN (67108863 + wgt (D.ig k).pk (w k).2.1 (w k).2.2.1 (w k).2.2.2)) 56 1 = lN (67108863 + wgt (D.ig k).pk (w k).2.1 (w k).2.2.1 (w k).2.2.2) := rs_u2_eq _ _ _ _
      have hg2 : fG J (rs_u2 J2 56 1 (lN (67108863 + wgt (D.ig k).pk (w k).2.1 (w k).2.2.1 (w k).2.2.2))) := fun q j a b => by rw [rs_u2_ne _ _ (fun z => a z.1)]; exact hj2 q j b
      generalize rs_u2 J2 56 1 (lN (67108863 + wgt (D.ig k).pk (w k).2.1 (w k).2.2.1 (w k).2.2.2)) = J3 at *
      generalize hI1 : rs_u2 (rs_u2 (rs_u2 I 56 8 (nI (bK (lkB D) k ||| 2 ^ k))) 56 2 (nI (w k).1)) 56 3 (nI ((w k).1 - lkD D k)) = I1
      have g1 : fF I I1 := by rw [← hI1]; exact fun q j a b => by rw [rs_u2_ne _ _ (fun z => a z.1), rs_u2_ne _ _ (fun z => a z.1), rs_u2_ne _ _ (fun z => a z.1)]
      have i5 : I1 56 5 = nI (sK (aP D w) k) := by rw [← hI1, rs_u2_ne _ _ (by omega), rs_u2_ne _ _ (by omega), rs_u2_ne _ _ (by omega)]; exact a5
      have i6 : I1 56 6 = nI (sK (aW D w) k) := by rw [← hI1, rs_u2_ne _ _ (by omega), rs_u2_ne _ _ (by omega), rs_u2_ne _ _ (by omega)]; exact a6
      have i7 : I1 56 7 = nI (sK (aG D w) k) := by rw [← hI1, rs_u2_ne _ _ (by omega), rs_u2_ne _ _ (by omega), rs_u2_ne _ _ (by omega)]; exact a7
      have i8 : I1 56 8 = nI (bK (lkB D) k ||| 2 ^ k) := by rw [← hI1, rs_u2_ne _ _ (by omega), rs_u2_ne _ _ (by omega), rs_u2_eq]
      have i9 : I1 56 9 = nI (bK (unB D) k) := by rw [← hI1, rs_u2_ne _ _ (by omega), rs_u2_ne _ _ (by omega), rs_u2_ne _ _ (by omega)]; exact a9
      have i2 : I1 56 2 = nI (w k).1 := by rw [← hI1, rs_u2_ne _ _ (by omega), rs_u2_eq]
      have i3 : I1 56 3 = nI ((w k).1 - lkD D k) := by rw [← hI1, rs_u2_eq]
      have i58 : ∀ j, I1 58 j = I 58 j := fun j => by rw [← hI1, rs_u2_ne _ _ (by omega), rs_u2_ne _ _ (by omega), rs_u2_ne _ _ (by omega)]
      simp (disch := omega) only [g_X6_fillOne_56, g_X6_fillOne_57, g_X6_fillOne_58, g_X6_fillOne_61, g_X6_fillOne_62, g_X6_fillOne_65, g_X6_fillOne_66, g_X6_fillOne_69, g_X6_fillOne_70, g_X6_fillOne_71, g_X6_fillOne_74, g_X6_fillOne_75, g_X6_fillOne_78, g_X6_fillOne_79, g_X6_fillOne_82, g_X6_fillOne_83, g_X6_fillOne_84, g_X6_fillOne_87, g_X6_fillOne_88, g_X6_fillOne_91, g_X6_fillOne_92, g_X6_fillOne_95, g_X6_fillOne_96, g_X6_fillOne_99, lk_X6_fillOne, XI, Nat.reduceAdd, Nat.reduceEqDiff, not_false_eq_true, nI_T1, nI_T0, true_and, and_true, WC, WV, WU, i5, s_cPrice P n s _ J3 R _ _ hp (show (w k).1 < 7000 by omega) hb4 j1, nI_addS, rs_u2_ne, i6, i7, i2, i3]
      refine hQ _ J3 (fun q j a b => ?_) hg2 ?_ ?_ ?_ ?_ ?_ (fun j => ?_)
      · rw [rs_u2_ne _ _ (fun z => a z.1), rs_u2_ne _ _ (fun z => a z.1), rs_u2_ne _ _ (fun z => a z.1)]
        exact g1 q j a b
      · rw [rs_u2_ne _ _ (by omega), rs_u2_ne _ _ (by omega), rs_u2_eq]
      · rw [rs_u2_ne _ _ (by omega), rs_u2_eq]
      · rw [rs_u2_eq]
      · rw [rs_u2_ne _ _ (by omega), rs_u2_ne _ _ (by omega), rs_u2_ne _ _ (by omega)]; exact i8
      · rw [rs_u2_ne _ _ (by omega), rs_u2_ne _ _ (by omega), rs_u2_ne _ _ (by omega)]; exact i9
      · rw [rs_u2_ne _ _ (by omega), rs_u2_ne _ _ (by omega), rs_u2_ne _ _ (by omega)]; exact i58 j
    · have nc : ¬ cov D k := fun z => hc z.2
      have e1 : aP D w k = 0 := fA_f nc
      have e2 : aW D w k = 0 := fA_f nc
      have e3 : aG D w k = 0 := fA_f nc
      have e5 : unB D k = true := (unB_i D k).mpr ⟨h0, hc⟩
      rw [if_pos e5, e1, e2, e3] at hQ
      simp (disch := omega) only [g_X6_fillOne_32, g_X6_fillOne_35, g_X6_fillOne_36, g_X6_fillOne_37, g_X6_fillOne_40, g_X6_fillOne_41, g_X6_fillOne_42, g_X6_fillOne_43, g_X6_fillOne_44, g_X6_fillOne_47, g_X6_fillOne_48, lk_X6_fillOne, XI, Nat.reduceAdd, Nat.reduceEqDiff, not_false_eq_true, nI_T1, nI_T0, true_and, and_true, WC, WV, WU, rs_b_0, rs_b_ok2, true_or, or_true, Classical.not_not, not_true_eq_false, if_true, if_false, reduceCtorEq, hc, rs_u2_ne, a9, bt_shl, Nat.one_mul, bt_or]
      refine hQ _ J (fun q j a b => ?_) (fun _ _ _ _ => rfl) ?_ ?_ ?_ ?_ ?_ (fun j => ?_)
      · rw [rs_u2_ne _ _ (fun z => a z.1), rs_u2_ne _ _ (fun z => a z.1)]
      · rw [rs_u2_ne _ _ (by omega), rs_u2_ne _ _ (by omega)]; exact a5
      · rw [rs_u2_ne _ _ (by omega), rs_u2_ne _ _ (by omega)]; exact a6
      · rw [rs_u2_ne _ _ (by omega), rs_u2_ne _ _ (by omega)]; exact a7
      · rw [rs_u2_ne _ _ (by omega), rs_u2_eq]
      · rw [rs_u2_eq]
      · rw [rs_u2_ne _ _ (by omega), rs_u2_ne _ _ (by omega)]
end
