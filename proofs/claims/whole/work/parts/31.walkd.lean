/-! the class's walk is the walk -/
def wkG (z : Nat × ((Nat → Nat × Nat) × Nat)) : Prop := z.1 ≤ 6 ∧ stOk z.2.1 ∧ (z.1 = 0 → z.2.2 ≤ 300)
theorem wkL_n (D : Dt) (inner : Nat → Rc → Nat × Nat → ((Nat → Nat × Nat) × Nat) → Nat × ((Nat → Nat × Nat) × Nat)) (op : Nat) (f : Nat × Nat) (z : ((Nat → Nat × Nat) × Nat)) : wkL D inner op f [] z = (0, z) := rfl
theorem wkL_c (D : Dt) (inner : Nat → Rc → Nat × Nat → ((Nat → Nat × Nat) × Nat) → Nat × ((Nat → Nat × Nat) × Nat)) (op : Nat) (f : Nat × Nat) (t : It) (ts : List It) (S : Nat → Nat × Nat) {c : Nat} (hc : c + 1 ≤ 300) : wkL D inner op f (t :: ts) (S, c) = if (wkB D inner op f t (S, c + 1)).1 = 0 then wkL D inner op f ts (wkB D inner op f t (S, c + 1)).2 else wkB D inner op f t (S, c + 1) := by
  show (if 300 < c + 1 then ((6, (S, c + 1)) : Nat × ((Nat → Nat × Nat) × Nat)) else if (wkB D inner op f t (S, c + 1)).1 = 0 then wkL D inner op f ts (wkB D inner op f t (S, c + 1)).2 else wkB D inner op f t (S, c + 1)) = _
  rw [if_neg (by omega)]
theorem wkL_o (D : Dt) (inner : Nat → Rc → Nat × Nat → ((Nat → Nat × Nat) × Nat) → Nat × ((Nat → Nat × Nat) × Nat)) (op : Nat) (f : Nat × Nat) (t : It) (ts : List It) (S : Nat → Nat × Nat) {c : Nat} (hc : 300 < c + 1) : wkL D inner op f (t :: ts) (S, c) = (6, (S, c + 1)) := by
  show (if 300 < c + 1 then ((6, (S, c + 1)) : Nat × ((Nat → Nat × Nat) × Nat)) else if (wkB D inner op f t (S, c + 1)).1 = 0 then wkL D inner op f ts (wkB D inner op f t (S, c + 1)).2 else wkB D inner op f t (S, c + 1)) = _
  exact if_pos hc
theorem wkA_ok {D : Dt} (hD : D.ok) {inner : Nat → Rc → Nat × Nat → ((Nat → Nat × Nat) × Nat) → Nat × ((Nat → Nat × Nat) × Nat)} (hin : ∀ r Z f S c, Z.ok → isF f → stOk S → c ≤ 300 → wkG (inner r Z f (S, c))) (op : Nat) {f : Nat × Nat} (hf : isF f) {t : It} (ht : t.ok) {S : Nat → Nat × Nat} {c : Nat} (hS : stOk S) (hc : c ≤ 300) : wkG (wkA D inner op f t (S, c)) := by
  unfold wkA
  cases h : D.rc (t.so - 12) with
  | none => exact ⟨show 1 ≤ 6 by decide, hS, fun _ => hc⟩
  | some Z =>
    dsimp only
    have hZ := (hD.1 _ _ h).2
    split
    · exact ⟨show 2 ≤ 6 by decide, hS, fun _ => hc⟩
    · split
      · exact ⟨show 3 ≤ 6 by decide, hS, fun _ => hc⟩
      · cases hf2 : fOf t f Z with
        | none => exact ⟨show 5 ≤ 6 by decide, hS, fun _ => hc⟩
        | some f2 => exact hin _ _ _ _ _ hZ (fOf_ok ht hf hZ f2 hf2) hS hc
theorem wkB_ok {D : Dt} (hD : D.ok) {inner : Nat → Rc → Nat × Nat → ((Nat → Nat × Nat) × Nat) → Nat × ((Nat → Nat × Nat) × Nat)} (hin : ∀ r Z f S c, Z.ok → isF f → stOk S → c ≤ 300 → wkG (inner r Z f (S, c))) (op : Nat) {f : Nat × Nat} (hf : isF f) {t : It} (ht : t.ok) {S : Nat → Nat × Nat} {c : Nat} (hS : stOk S) (hc : c ≤ 300) : wkG (wkB D inner op f t (S, c)) := by
  unfold wkB
  split
  · exact wkA_ok hD hin op hf ht hS hc
  · have h := adI_ok hD ht (by omega) hf hS
    exact ⟨h.2, h.1, fun _ => hc⟩
theorem wkL_ok {D : Dt} (hD : D.ok) {inner : Nat → Rc → Nat × Nat → ((Nat → Nat × Nat) × Nat) → Nat × ((Nat → Nat × Nat) × Nat)} (hin : ∀ r Z f S c, Z.ok → isF f → stOk S → c ≤ 300 → wkG (inner r Z f (S, c))) (op : Nat) {f : Nat × Nat} (hf : isF f) : ∀ (l : List It) (S : Nat → Nat × Nat) (c : Nat), (∀ t, t ∈ l → t.ok) → stOk S → c ≤ 300 → wkG (wkL D inner op f l (S, c))
  | [], S, c, hl, hS, hc => ⟨Nat.zero_le _, hS, fun _ => hc⟩
  | t :: ts, S, c, hl, hS, hc => by
    by_cases h : 300 < c + 1
    · rw [wkL_o _ _ _ _ _ _ _ h]
      exact ⟨show 6 ≤ 6 by decide, hS, fun z => by cases z⟩
    · rw [wkL_c _ _ _ _ _ _ _ (by omega)]
      have hb := wkB_ok hD hin op hf (hl t List.mem_cons_self) hS (show c + 1 ≤ 300 by omega)
      generalize wkB D inner op f t (S, c + 1) = a at hb
      obtain ⟨a1, a2, a3⟩ := a
      split
      · rename_i h0
        exact wkL_ok hD hin op hf ts a2 a3 (fun t ht => hl t (List.mem_cons_of_mem _ ht)) hb.2.1 (hb.2.2 h0)
      · exact hb
theorem Rc.ok_mem {Z : Rc} (h : Z.ok) (t : It) (ht : t ∈ Z.its) : t.ok := by
  obtain ⟨k, hk⟩ := List.mem_iff_getElem?.mp ht
  exact h.2.2.1 k t hk
theorem wk_ok {D : Dt} (hD : D.ok) : ∀ (m op r : Nat) (Z : Rc) (f : Nat × Nat) (S : Nat → Nat × Nat) (c : Nat), Z.ok → isF f → stOk S → c ≤ 300 → wkG (wk D m op Z f (S, c))
  | 0, op, r, Z, f, S, c, hZ, hf, hS, hc => ⟨show 2 ≤ 6 by decide, hS, fun _ => hc⟩
  | m + 1, op, r, Z, f, S, c, hZ, hf, hS, hc => by
    exact wkL_ok hD (fun r Z f S c hZ hf hS hc => wk_ok hD m _ r Z f S c hZ hf hS hc) op hf Z.its S c (Rc.ok_mem hZ) hS hc
theorem rs_u2_u2 {α : Type} (F : Nat → Nat → α) (q j : Nat) (v x : α) : rs_u2 (rs_u2 F q j v) q j x = rs_u2 F q j x := by
  funext a i
  unfold rs_u2
  split
  · split <;> rfl
  · rfl
/-- the class's walk with so much fuel is the walk -/
def WkC (P : Nat → Option rs_C) (b q : Nat) (D : Dt) (m : Nat) : Prop := ∀ (d n s : Nat) (I : Nat → Nat → Int32) (J : Nat → Nat → Int64) (R : Nat → Nat → Option Nat) (Q : rs_H → Option Value → Prop) (op x r : Nat) (Z : Rc) (f : Nat × Nat) (S : Nat → Nat × Nat) (c : Nat), op < 256 → cRc P b x r Z → Z.ok → isF f → stOk S → c ≤ 300 → 2 * m + 5 ≤ d →
  (rs_XM d yX3_walk [.ref 45, .ref q, .ref x, .long (pkF f), .int (nI op), .int (nI (9 - m))] (sk_w P n s (rs_u2 I 45 6 (nI c)) (jS J 47 12 S) R) Q ↔ Q (sk_w P n s (rs_u2 I 45 6 (nI (wk D m op Z f (S, c)).2.2)) (jS J 47 12 (wk D m op Z f (S, c)).2.1) R) (some (.int (nI (wk D m op Z f (S, c)).1))))
section
variable (P : Nat → Option rs_C) (n s : Nat) (I : Nat → Nat → Int32) (J : Nat → Nat → Int64) (R : Nat → Nat → Option Nat) (d : Nat) (Q : rs_H → Option Value → Prop)
theorem s_enter {b q x m : Nat} {D : Dt} {t : It} (hq : cSt P b q D) (hx : cIt P b x t) (hD : D.ok) (ht : t.ok) (hs : 12 ≤ t.so) (hm : m ≤ 8) (ih : WkC P b q D m) {f : Nat × Nat} (hf : isF f) {S : Nat → Nat × Nat} (hS : stOk S) {c op : Nat} (hc : c ≤ 300) (ho : op < 256) (hd : 2 * m + 5 ≤ d) : rs_XM (d + 1) yX3_enter [.ref 45, .ref q, .ref x, .long (pkF f), .int (nI op), .int (nI (9 - (m + 1)))] (sk_w P n s (rs_u2 I 45 6 (nI c)) (jS J 47 12 S) R) Q ↔ Q (sk_w P n s (rs_u2 I 45 6 (nI (wkA D (fun r Z2 f2 z2 => wk D m (op ||| 2 ^ r) Z2 f2 z2) op f t (S, c)).2.2)) (jS J 47 12 (wkA D (fun r Z2 f2 z2 => wk D m (op ||| 2 ^ r) Z2 f2 z2) op f t (S, c)).2.1) R) (some (.int (nI (wkA D (fun r Z2 f2 z2 => wk D m (op ||| 2 ^ r) Z2 f2 z2) op f t (S, c)).1))) := by
  have hr : t.so - 12 < 8 := by have := ht.2.2.2; omega
  obtain ⟨V, h1, v0, v1, v2⟩ := id hx
  obtain ⟨d2, rfl⟩ : ∃ d2, d = d2 + 5 := ⟨d - 5, by omega⟩
  rw [em_X3_enter]
  simp (disch := omega) only [K_X3_enter, lk_X3_enter, XI, Nat.reduceAdd, Nat.reduceEqDiff, not_false_eq_true, nI_T1, nI_T0, true_and, and_true, WC, WV, WU, k_It P n s _ _ R hx, k_St P n s _ _ R hq, g_innerRecipe n s _ _ R _ _ hx hs]
  unfold wkA
  cases h : D.rc (t.so - 12) with
  | none =>
    simp (disch := omega) only [g_recipeAt_n n s _ _ R hq hr h, K_X3_enter, lk_X3_enter, XI, Nat.reduceAdd, Nat.reduceEqDiff, not_false_eq_true, nI_T1, nI_T0, true_and, and_true, WC, WV, WU]
  | some Z =>
    obtain ⟨y, hy, cy⟩ := g_recipeAt_s hq hr h
    have hZ := (hD.1 _ _ h).2
    have hu := hZ.2.2.2.2.2.1
    have hu2 := ht.2.2.1
    obtain ⟨V2, i2, U2, g1, g2, w0, w1, w2, w3, w4, w5⟩ := id hy
    simp (disch := omega) only [cy, K_X3_enter, lk_X3_enter, XI, Nat.reduceAdd, Nat.reduceEqDiff, not_false_eq_true, nI_T1, nI_T0, true_and, and_true, WC, WV, WU, s_X11_isSet, rs_b_0]
    by_cases hb : op.testBit (t.so - 12) = true
    · simp only [hb, not_true_eq_false, if_false, if_true]
    · simp (disch := omega) only [hb, not_false_eq_true, if_false, if_true, K_X3_enter, lk_X3_enter, XI, Nat.reduceAdd, Nat.reduceEqDiff, not_false_eq_true, nI_T1, nI_T0, true_and, and_true, WC, WV, WU, sk_cP n s _ _ R g1, sk_cP n s _ _ R h1, w3, v1, nI_eqS]
      by_cases hun : Z.un = t.un
      · have hfo := fOf_ok ht hf hZ
        have hop : op ||| 2 ^ (t.so - 12) < 2 ^ 8 := Nat.or_lt_two_pow ho (Nat.pow_lt_pow_right (by decide) hr)
        simp (disch := omega) only [hun, not_true_eq_false, if_true, if_false, g_factorOf n s _ _ R _ _ hx hy ht hZ hf, K_X3_enter, lk_X3_enter, XI, Nat.reduceAdd, Nat.reduceEqDiff, not_false_eq_true, nI_T1, nI_T0, true_and, and_true, WC, WV, WU, lg_cmp_ge, lg_cmp_lt, lN_0, pkO_nn _ hfo]
        cases hf2 : fOf t f Z with
        | none => simp only [not_true_eq_false, if_false, Bool.false_eq_true, not_false_eq_true, if_true]
        | some f2 =>
          have e1 : 2 ^ (t.so - 12) < 2 ^ 8 := Nat.pow_lt_pow_right (by decide) hr
          simp (disch := omega) only [reduceCtorEq, not_false_eq_true, if_true, if_false, Bool.false_eq_true, bt_shl, Nat.one_mul, bt_or, nI_addS, show 9 - (m + 1) + 1 = 9 - m by omega, pkO_s]
          rw [ih _ n s I J R _ _ _ _ _ _ _ _ hop hy hZ (hfo f2 hf2) hS hc (by omega)]
          simp (disch := omega) only [K_X3_enter, lk_X3_enter, XI, Nat.reduceAdd, Nat.reduceEqDiff, not_false_eq_true, nI_T1, nI_T0, true_and, and_true, WC, WV, WU, if_false, Bool.false_eq_true]
      · simp only [hun, not_false_eq_true, if_true, if_false, Bool.false_eq_true]
theorem X3_walk_l {b q x i m : Nat} {D : Dt} {Z : Rc} {U : Nat → Value} (hq : cSt P b q D) (hD : D.ok) (hZ : Z.ok) (hi : cP P b i (16, 6, U)) (un : ∀ k, k < 6 → Z.its[k]? = none → U k = .null) (us : ∀ k t, k < 6 → Z.its[k]? = some t → ∃ x, U k = .ref x ∧ cIt P b x t) (hm : m ≤ 8) (ih : WkC P b q D m) {f : Nat × Nat} (hf : isF f) {op : Nat} (ho : op < 256) (hd : 2 * m + 6 ≤ d) :
    ∀ (l : List It) (k : Nat) (S : Nat → Nat × Nat) (c : Nat), Z.its.drop k = l → k ≤ 6 → stOk S → c ≤ 300 → ∀ z10 z11, (rs_X (d + 1) yX3_walk 23 [some (.ref 45), some (.ref q), some (.ref x), some (.long (pkF f)), none, some (.int (nI op)), some (.int (nI (9 - (m + 1)))), some (.ref i), some (.int (nI 6)), some (.int (nI k)), z10, z11] [] (sk_w P n s (rs_u2 I 45 6 (nI c)) (jS J 47 12 S) R) Q ↔ Q (sk_w P n s (rs_u2 I 45 6 (nI (wkL D (fun r Z2 f2 z2 => wk D m (op ||| 2 ^ r) Z2 f2 z2) op f l (S, c)).2.2)) (jS J 47 12 (wkL D (fun r Z2 f2 z2 => wk D m (op ||| 2 ^ r) Z2 f2 z2) op f l (S, c)).2.1) R) (some (.int (nI (wkL D (fun r Z2 f2 z2 => wk D m (op ||| 2 ^ r) Z2 f2 z2) op f l (S, c)).1)))) := by
  intro l
  induction l with
  | nil =>
    intro k S c hl hk hS hc z10 z11
    have hn : Z.its[k]? = none := by
      have e := List.drop_eq_nil_iff.mp hl
      exact List.getElem?_eq_none e
    rw [wkL_n, g_X3_walk_23]
    by_cases h6 : k < 6
    · simp (disch := omega) only [g_X3_walk_25, g_X3_walk_27, g_X3_walk_30, g_X3_walk_32, g_X3_walk_34, g_X3_walk_35, g_X3_walk_37, g_X3_walk_39, g_X3_walk_42, g_X3_walk_43, lk_X3_walk, XI, Nat.reduceAdd, Nat.reduceEqDiff, not_false_eq_true, nI_T1, nI_T0, true_and, and_true, WC, WV, WU, nI_leS, sk_cP n s _ _ R hi, nI_cl, rs_in_t, un k h6 hn]
      rw [if_neg (by omega)]
    · simp (disch := omega) only [g_X3_walk_25, g_X3_walk_27, lk_X3_walk, g_X3_walk_117, g_X3_walk_118, lk_X3_walk, XI, Nat.reduceAdd, Nat.reduceEqDiff, not_false_eq_true, nI_T1, nI_T0, true_and, and_true, WC, WV, WU, nI_leS]
      rw [if_pos (by omega)]
  | cons t ts ihl =>
    intro k S c hl hk hS hc z10 z11
    have hs : Z.its[k]? = some t := by
      have e : (Z.its.drop k)[0]? = some t := by rw [hl]; rfl
      rw [List.getElem?_drop] at e
      exact e
    have hts : Z.its.drop (k + 1) = ts := by
      have e := congrArg (List.drop 1) hl
      rw [List.drop_drop] at e
      exact e
    have h6 : k < 6 := by
      have h1 := hZ.2.1
      have h2 := (List.getElem?_eq_some_iff.mp hs).1
      omega
    obtain ⟨y, hy, cy⟩ := us k t h6 hs
    have ht := hZ.2.2.1 k t hs
    obtain ⟨d2, rfl⟩ : ∃ d2, d = d2 + 6 := ⟨d - 6, by omega⟩
    rw [g_X3_walk_23]
    simp (disch := omega) only [g_X3_walk_25, g_X3_walk_27, g_X3_walk_30, g_X3_walk_32, g_X3_walk_34, g_X3_walk_35, g_X3_walk_37, g_X3_walk_39, g_X3_walk_42, g_X3_walk_43, g_X3_walk_44, g_X3_walk_45, g_X3_walk_46, g_X3_walk_49, g_X3_walk_50, g_X3_walk_51, g_X3_walk_54, g_X3_walk_55, g_X3_walk_58, g_X3_walk_61, g_X3_walk_64, g_X3_walk_66, lk_X3_walk, XI, Nat.reduceAdd, Nat.reduceEqDiff, not_false_eq_true, nI_T1, nI_T0, true_and, and_true, WC, WV, WU, nI_leS, sk_cP n s _ _ R hi, nI_cl, rs_in_t, hy, rs_u2_eq, rs_u2_u2, nI_addS]
    rw [if_neg (by omega)]
    by_cases h3 : c + 1 ≤ 300
    · have hb := wkB_ok hD (inner := fun r Z2 f2 z2 => wk D m (op ||| 2 ^ r) Z2 f2 z2) (fun r Z f S c hZ hf hS hc => wk_ok hD m _ r Z f S c hZ hf hS hc) op hf ht hS h3
      rw [if_pos h3, wkL_c _ _ _ _ _ _ _ h3]
      simp (disch := omega) only [g_X3_walk_67, g_X3_walk_69, g_X3_walk_72, lk_X3_walk, XI, Nat.reduceAdd, Nat.reduceEqDiff, not_false_eq_true, nI_T1, nI_T0, true_and, and_true, WC, WV, WU, k_It P n s _ _ R cy, g_isOfRecipe n s _ _ R _ _ cy ht, rs_b_0]
      by_cases h12 : 12 ≤ t.so
      · rw [show wkB D (fun r Z2 f2 z2 => wk D m (op ||| 2 ^ r) Z2 f2 z2) op f t (S, c + 1) = wkA D (fun r Z2 f2 z2 => wk D m (op ||| 2 ^ r) Z2 f2 z2) op f t (S, c + 1) from if_pos h12] at hb ⊢
        rw [if_neg (fun z => z h12)]
        simp (disch := omega) only [g_X3_walk_75, g_X3_walk_76, g_X3_walk_77, g_X3_walk_79, g_X3_walk_80, g_X3_walk_82, g_X3_walk_84, g_X3_walk_87, g_X3_walk_90, g_X3_walk_91, g_X3_walk_94, g_X3_walk_95, g_X3_walk_97, g_X3_walk_98, lk_X3_walk, XI, Nat.reduceAdd, Nat.reduceEqDiff, not_false_eq_true, nI_T1, nI_T0, true_and, and_true, WC, WV, WU]
        rw [s_enter P n s I J R _ _ hq cy hD ht h12 hm ih hf hS h3 ho (by omega)]
        generalize wkA D (fun r Z2 f2 z2 => wk D m (op ||| 2 ^ r) Z2 f2 z2) op f t (S, c + 1) = a at hb
        obtain ⟨a1, a2, a3⟩ := a
        have b1 : a1 ≤ 6 := hb.1
        simp (disch := omega) only [g_X3_walk_87, g_X3_walk_90, g_X3_walk_91, g_X3_walk_94, g_X3_walk_95, g_X3_walk_97, g_X3_walk_98, g_X3_walk_101, g_X3_walk_103, g_X3_walk_105, g_X3_walk_108, g_X3_walk_110, g_X3_walk_111, g_X3_walk_114, lk_X3_walk, XI, Nat.reduceAdd, Nat.reduceEqDiff, not_false_eq_true, nI_T1, nI_T0, true_and, and_true, WC, WV, WU, nI_eq0S, nI_addS]
        by_cases h0 : a1 = 0
        · simp only [h0, if_true]
          exact ihl (k + 1) a2 a3 hts (by omega) hb.2.1 (hb.2.2 h0) _ _
        · simp only [h0, if_false]
      · rw [show wkB D (fun r Z2 f2 z2 => wk D m (op ||| 2 ^ r) Z2 f2 z2) op f t (S, c + 1) = ((adI D t f S).1, ((adI D t f S).2, c + 1)) from if_neg h12] at hb ⊢
        rw [if_pos h12]
        simp (disch := omega) only [g_X3_walk_90, g_X3_walk_91, g_X3_walk_94, g_X3_walk_95, g_X3_walk_97, g_X3_walk_98, lk_X3_walk, XI, Nat.reduceAdd, Nat.reduceEqDiff, not_false_eq_true, nI_T1, nI_T0, true_and, and_true, WC, WV, WU]
        rw [s_addItem_46 P n s _ J R _ _ hq cy hD ht (by omega) hf hS]
        generalize adI D t f S = a at hb
        obtain ⟨a1, a2⟩ := a
        have b1 : a1 ≤ 6 := hb.1
        simp (disch := omega) only [g_X3_walk_101, g_X3_walk_103, g_X3_walk_105, g_X3_walk_108, g_X3_walk_110, g_X3_walk_111, g_X3_walk_114, lk_X3_walk, XI, Nat.reduceAdd, Nat.reduceEqDiff, not_false_eq_true, nI_T1, nI_T0, true_and, and_true, WC, WV, WU, nI_eq0S, nI_addS]
        by_cases h0 : a1 = 0
        · simp only [h0, if_true]
          exact ihl (k + 1) a2 (c + 1) hts (by omega) hb.2.1 h3 _ _
        · simp only [h0, if_false]
    · rw [if_neg h3, wkL_o _ _ _ _ _ _ _ (by omega)]
theorem s_walk {b q : Nat} {D : Dt} (hq : cSt P b q D) (hD : D.ok) : ∀ m, m ≤ 9 → WkC P b q D m
  | 0, _ => by
    intro d n s I J R Q op x r Z f S c ho hx hZ hf hS hc hd
    rw [em_X3_walk]
    simp (disch := omega) only [g_X3_walk_0, g_X3_walk_2, g_X3_walk_4, g_X3_walk_7, g_X3_walk_8, lk_X3_walk, XI, Nat.reduceAdd, Nat.reduceEqDiff, not_false_eq_true, nI_T1, nI_T0, true_and, and_true, WC, WV, WU, nI_leS]
    rw [if_neg (by omega)]
    exact Iff.rfl
  | m + 1, hm => by
    intro d n s I J R Q op x r Z f S c ho hx hZ hf hS hc hd
    obtain ⟨V, i, U, h1, h2, v0, v1, v2, v3, v4, un, us⟩ := hx
    obtain ⟨d2, rfl⟩ : ∃ d2, d = d2 + 1 := ⟨d - 1, by omega⟩
    rw [em_X3_walk]
    simp (disch := omega) only [g_X3_walk_0, g_X3_walk_2, g_X3_walk_4, g_X3_walk_7, g_X3_walk_8, g_X3_walk_9, g_X3_walk_10, g_X3_walk_13, g_X3_walk_15, g_X3_walk_17, g_X3_walk_18, g_X3_walk_20, g_X3_walk_21, lk_X3_walk, XI, Nat.reduceAdd, Nat.reduceEqDiff, not_false_eq_true, nI_T1, nI_T0, true_and, and_true, WC, WV, WU, nI_leS, sk_cP n s _ _ R h1, sk_cP n s _ _ R h2, v1]
    rw [if_pos (by omega)]
    exact X3_walk_l P n s I J R d2 Q hq hD hZ h2 un us (by omega) (s_walk hq hD m (by omega)) hf ho (by omega) Z.its 0 S c rfl (by omega) hS hc _ _
end
