/-! the class finds again -/
def AJ (J : Nat → Nat → Int64) (F S : Nat → Nat × Nat) : Nat → Nat → Int64 := jS (jS J 55 8 F) 51 12 S
theorem AJ_55 (J : Nat → Nat → Int64) (F S : Nat → Nat × Nat) {i : Nat} (h : i < 8) : AJ J F S 55 i = pkF (F i) := by
  unfold AJ
  rw [jS_ne _ _ _ _ _ (by decide), jS_at _ _ _ _ h]
theorem AJ_51 (J : Nat → Nat → Int64) (F S : Nat → Nat × Nat) {i : Nat} (h : i < 12) : AJ J F S 51 i = pkF (S i) := jS_at _ _ _ _ h
theorem AJ_u55 (J : Nat → Nat → Int64) (F S : Nat → Nat × Nat) {i : Nat} (h : i < 8) (q : Nat × Nat) : rs_u2 (AJ J F S) 55 i (pkF q) = AJ J (upS F i q) S := by
  unfold AJ
  rw [jS_c _ _ _ _ _ _ (by decide), jS_u _ _ _ _ h]
theorem AJ_u51 (J : Nat → Nat → Int64) (F S : Nat → Nat × Nat) {i : Nat} (h : i < 12) (q : Nat × Nat) : rs_u2 (AJ J F S) 51 i (pkF q) = AJ J F (upS S i q) := jS_u _ _ _ _ h _
theorem AJ_f (J : Nat → Nat → Int64) (F S : Nat → Nat × Nat) : fC J (AJ J F S) := fC_jS (fC_jS (fC_r J) (by decide)) (by decide)
section
variable (P : Nat → Option rs_C) (n s : Nat) (I : Nat → Nat → Int32) (J : Nat → Nat → Int64) (R : Nat → Nat → Option Nat) (d : Nat) (Q : rs_H → Option Value → Prop)
theorem s_addItem_50 {b q x : Nat} {D : Dt} {t : It} (hq : cSt P b q D) (hx : cIt P b x t) (hD : D.ok) (ht : t.ok) (hs : t.so < 12) {f : Nat × Nat} (hf : isF f) {F S : Nat → Nat × Nat} (hS : stOk S) : rs_XM (d + 4) yX3_addItem [.ref 50, .ref q, .ref x, .long (pkF f)] (sk_w P n s I (AJ J F S) R) Q ↔ Q (sk_w P n s I (AJ J F (adI D t f S).2) R) (some (.int (nI (adI D t f S).1))) := by
  obtain ⟨y, hy, cy⟩ := g_ingredientAt hq hs
  have hx2 := hx
  obtain ⟨V, h1, v0, v1, v2⟩ := hx2
  have hg := Ig.gr_ok (hD.2.1 t.so hs) t.un
  have hm := omul_ok (okO_s ht.1) (okO_s hf)
  rw [em_X3_addItem]
  simp (disch := omega) only [K_X3_addItem, lk_X3_addItem, XI, Nat.reduceAdd, Nat.reduceEqDiff, not_false_eq_true, nI_T1, nI_T0, true_and, and_true, WC, WV, WU, sk_cP n s I _ R h1, v0, v1, v2, cy, k_St P n s I _ R hq, k_Ig P n s I _ R hy, g_gramsOf n s I _ R _ _ hy ht.2.2.1, lg_cmp_ge, lg_cmp_lt, lN_0, pkO_nn _ hg, ← pkO_s t.am, ← pkO_s f, s_X0_product _ _ _ (okO_s ht.1) (okO_s hf), s_X0_product _ _ _ hm hg]
  unfold adI
  cases hc : (D.ig t.so).gr t.un with
  | none => rw [if_neg (fun z => z rfl)]
  | some g =>
    rw [if_pos (fun z => by cases z)]
    rw [hc] at hg
    dsimp only
    cases ha : adO (S t.so) (omul (omul (some t.am) (some f)) (some g)) with
    | none => simp (disch := omega) only [K_X3_addItem, lk_X3_addItem, XI, Nat.reduceAdd, Nat.reduceEqDiff, not_false_eq_true, nI_T1, nI_T0, true_and, and_true, WC, WV, WU, su_add_50_n P n s I _ R _ _ hs (AJ_51 J F S hs) (hS t.so hs) (omul_ok hm hg) ha]
    | some p => simp (disch := omega) only [K_X3_addItem, lk_X3_addItem, XI, Nat.reduceAdd, Nat.reduceEqDiff, not_false_eq_true, nI_T1, nI_T0, true_and, and_true, WC, WV, WU, su_add_50_s P n s I _ R _ _ hs (AJ_51 J F S hs) (hS t.so hs) (omul_ok hm hg) ha, AJ_u51 _ _ _ hs]
theorem s_addFactor {b q x : Nat} {D : Dt} {t : It} (hq : cSt P b q D) (hx : cIt P b x t) (hD : D.ok) (ht : t.ok) (hs : 12 ≤ t.so) {f : Nat × Nat} (hf : isF f) {F S : Nat → Nat × Nat} (hF : ∀ i, i < 8 → isF (F i))
    (q1 : ∀ y, agI D f t (F, S) = some y → Q (sk_w P n s I (AJ J y.1 y.2) R) (some (.int (nI 0)))) (q0 : agI D f t (F, S) = none → ∀ e : Nat, (e = 1 ∨ e = 5) → Q (sk_w P n s I (AJ J F S) R) (some (.int (nI e)))) : rs_XM (d + 5) yX3_addFactor [.ref 45, .ref q, .ref x, .long (pkF f)] (sk_w P n s I (AJ J F S) R) Q := by
  have hc8 : t.so - 12 < 8 := by have := ht.2.2.2; omega
  unfold agI at q1 q0
  rw [if_pos hs] at q1 q0
  rw [em_X3_addFactor]
  cases hz : D.rc (t.so - 12) with
  | none =>
    rw [hz] at q0
    simp (disch := omega) only [K_X3_addFactor, lk_X3_addFactor, XI, Nat.reduceAdd, Nat.reduceEqDiff, not_false_eq_true, nI_T1, nI_T0, true_and, and_true, WC, WV, WU, k_St P n s I _ R hq, k_It P n s I _ R hx, g_innerRecipe n s I _ R _ _ hx hs, g_recipeAt_n n s I _ R hq hc8 hz]
    exact q0 rfl 1 (Or.inl rfl)
  | some Z =>
    rw [hz] at q0 q1
    dsimp only at q0 q1
    have hZ := (hD.1 _ _ hz).2
    obtain ⟨y, hy, cy⟩ := g_recipeAt_s hq hc8 hz
    obtain ⟨V, i, U, h1, h2, v0, v1, v2⟩ := id hy
    have ho := fOf_ok ht hf hZ
    simp (disch := omega) only [g_X3_addFactor_0, g_X3_addFactor_1, g_X3_addFactor_2, g_X3_addFactor_5, g_X3_addFactor_8, g_X3_addFactor_10, g_X3_addFactor_12, g_X3_addFactor_15, g_X3_addFactor_16, g_X3_addFactor_17, g_X3_addFactor_18, g_X3_addFactor_21, g_X3_addFactor_23, g_X3_addFactor_26, g_X3_addFactor_27, g_X3_addFactor_28, g_X3_addFactor_30, lk_X3_addFactor, XI, Nat.reduceAdd, Nat.reduceEqDiff, not_false_eq_true, nI_T1, nI_T0, true_and, and_true, WC, WV, WU, k_St P n s I _ R hq, k_It P n s I _ R hx, g_innerRecipe n s I _ R _ _ hx hs, cy, sk_cP n s I _ R h1, v0, g_factorOf n s I _ R _ _ hx hy ht hZ hf]
    cases ha : adO (F (t.so - 12)) (fOf t f Z) with
    | none =>
      rw [ha] at q0
      simp (disch := omega) only [g_X3_addFactor_33, g_X3_addFactor_36, lk_X3_addFactor, XI, Nat.reduceAdd, Nat.reduceEqDiff, not_false_eq_true, nI_T1, nI_T0, true_and, and_true, WC, WV, WU, su_add_54_n P n s I _ R _ _ hc8 (AJ_55 J F S hc8) (hF _ hc8) ho ha]
      exact q0 rfl 5 (Or.inr rfl)
    | some g =>
      rw [ha] at q1
      simp (disch := omega) only [g_X3_addFactor_33, g_X3_addFactor_36, lk_X3_addFactor, XI, Nat.reduceAdd, Nat.reduceEqDiff, not_false_eq_true, nI_T1, nI_T0, true_and, and_true, WC, WV, WU, su_add_54_s P n s I _ R _ _ hc8 (AJ_55 J F S hc8) (hF _ hc8) ho ha, AJ_u55 _ _ _ hc8]
      exact q1 (upS F (t.so - 12) g, S) rfl
theorem X3_goT_l {b q y i r : Nat} {D : Dt} (hq : cSt P b q D) (hD : D.ok) {Z : Rc} (hz : D.rc r = some Z) {U : Nat → Value} (hi : cP P b i (16, 6, U)) (un : ∀ k, k < 6 → Z.its[k]? = none → U k = .null) (us : ∀ k t, k < 6 → Z.its[k]? = some t → ∃ x, U k = .ref x ∧ cIt P b x t) {f : Nat × Nat} (hf : isF f) : ∀ (l : List It) (k : Nat) (F S : Nat → Nat × Nat) (z8 z9 : Option Value), Z.its.drop k = l → k ≤ 6 → zOk (F, S) →
    (∀ x, agL D f l (F, S) = some x → Q (sk_w P n s I (AJ J x.1 x.2) R) (some (.int (nI 1)))) → (agL D f l (F, S) = none → ∀ F' S', Q (sk_w P n s I (AJ J F' S') R) (some (.int (nI 0)))) →
    rs_X (d + 6) yX3_goThrough 26 [some (.ref 45), some (.ref q), some (.ref y), some (.long (pkF f)), none, some (.ref i), some (.int (nI 6)), some (.int (nI k)), z8, z9] [] (sk_w P n s I (AJ J F S) R) Q := by
  have hZ := (hD.1 r Z hz).2
  have hl6 := hZ.2.1
  intro l
  induction l with
  | nil =>
    intro k F S z8 z9 hl hk hzo q1 q0
    have hlen : Z.its.length ≤ k := List.drop_eq_nil_iff.mp hl
    by_cases e : k = 6
    · subst e
      rw [g_X3_goThrough_26]
      simp (disch := omega) only [g_X3_goThrough_28, g_X3_goThrough_30, lk_X3_goThrough, g_X3_goThrough_92, g_X3_goThrough_93, lk_X3_goThrough, XI, Nat.reduceAdd, Nat.reduceEqDiff, not_false_eq_true, nI_T1, nI_T0, true_and, and_true, WC, WV, WU, nI_leS, Nat.le_refl, if_true]
      exact q1 (F, S) rfl
    · have hn := un k (by omega) (List.getElem?_eq_none hlen)
      rw [g_X3_goThrough_26]
      simp (disch := omega) only [g_X3_goThrough_28, g_X3_goThrough_30, g_X3_goThrough_33, g_X3_goThrough_35, g_X3_goThrough_37, g_X3_goThrough_38, g_X3_goThrough_40, g_X3_goThrough_42, g_X3_goThrough_45, g_X3_goThrough_46, lk_X3_goThrough, XI, Nat.reduceAdd, Nat.reduceEqDiff, not_false_eq_true, nI_T1, nI_T0, true_and, and_true, WC, WV, WU, nI_leS, sk_cP n s I _ R hi, nI_cl, rs_in_t, hn]
      rw [if_neg (by omega)]
      exact q1 (F, S) rfl
  | cons t ts ih =>
    intro k F S z8 z9 hl hk hzo q1 q0
    have hs : Z.its[k]? = some t := by
      have e : (Z.its.drop k)[0]? = some t := by rw [hl]; rfl
      rw [List.getElem?_drop] at e
      exact e
    have hts : Z.its.drop (k + 1) = ts := by
      have e := congrArg (List.drop 1) hl
      rw [List.drop_drop] at e
      exact e
    have hkl := (List.getElem?_eq_some_iff.mp hs).1
    have ht := hZ.2.2.1 k t hs
    obtain ⟨x, hx, cx⟩ := us k t (by omega) hs
    rw [agL_c] at q1 q0
    rw [g_X3_goThrough_26]
    simp (disch := omega) only [g_X3_goThrough_28, g_X3_goThrough_30, g_X3_goThrough_33, g_X3_goThrough_35, g_X3_goThrough_37, g_X3_goThrough_38, g_X3_goThrough_40, g_X3_goThrough_42, g_X3_goThrough_45, g_X3_goThrough_46, g_X3_goThrough_47, g_X3_goThrough_49, g_X3_goThrough_52, lk_X3_goThrough, XI, Nat.reduceAdd, Nat.reduceEqDiff, not_false_eq_true, nI_T1, nI_T0, true_and, and_true, WC, WV, WU, rs_b_0, rs_b_ok2, true_or, or_true, Classical.not_not, not_true_eq_false, if_true, if_false, reduceCtorEq, nI_leS, sk_cP n s I _ R hi, nI_cl, rs_in_t, hx, k_It P n s I _ R cx, g_isOfRecipe n s I _ R _ _ cx ht]
    rw [if_neg (by omega)]
    by_cases e : 12 ≤ t.so
    · simp (disch := omega) only [e, not_true_eq_false, if_true, if_false, g_X3_goThrough_55, g_X3_goThrough_56, g_X3_goThrough_57, g_X3_goThrough_59, g_X3_goThrough_60, lk_X3_goThrough, XI, Nat.reduceAdd, Nat.reduceEqDiff, not_false_eq_true, nI_T1, nI_T0, true_and, and_true, WC, WV, WU]
      refine s_addFactor P n s I J R d _ hq cx hD ht e hf hzo.1 (fun a ha => ?_) (fun ha e he => ?_)
      · rw [ha] at q1 q0
        simp (disch := omega) only [g_X3_goThrough_63, lk_X3_goThrough, g_X3_goThrough_77, g_X3_goThrough_79, g_X3_goThrough_81, g_X3_goThrough_84, g_X3_goThrough_85, g_X3_goThrough_86, g_X3_goThrough_89, lk_X3_goThrough, XI, Nat.reduceAdd, Nat.reduceEqDiff, not_false_eq_true, nI_T1, nI_T0, true_and, and_true, WC, WV, WU, nI_00, not_true_eq_false, if_true, if_false, nI_addS]
        exact ih (k + 1) a.1 a.2 _ _ hts (by omega) (agI_ok hD hf ht hzo ha) q1 q0
      · rw [ha] at q0
        have hne : ¬ e = 0 := by omega
        have hlt : e < 2147483648 := by omega
        simp (disch := omega) only [g_X3_goThrough_63, lk_X3_goThrough, g_X3_goThrough_77, g_X3_goThrough_79, g_X3_goThrough_81, g_X3_goThrough_84, g_X3_goThrough_85, lk_X3_goThrough, XI, Nat.reduceAdd, Nat.reduceEqDiff, not_false_eq_true, nI_T1, nI_T0, true_and, and_true, WC, WV, WU, nI_eq0S, hne, not_false_eq_true, if_true, if_false, true_or, true_and]
        exact q0 rfl F S
    · have ho := adI_ok hD ht (by omega) hf hzo.2
      simp (disch := omega) only [e, not_false_eq_true, if_true, if_false, g_X3_goThrough_66, g_X3_goThrough_67, g_X3_goThrough_70, g_X3_goThrough_71, g_X3_goThrough_73, g_X3_goThrough_74, lk_X3_goThrough, XI, Nat.reduceAdd, Nat.reduceEqDiff, not_false_eq_true, nI_T1, nI_T0, true_and, and_true, WC, WV, WU, s_addItem_50 P n s I J R _ _ hq cx hD ht (show t.so < 12 by omega) hf hzo.2]
      unfold agI at q1 q0
      rw [if_neg e] at q1 q0
      by_cases e0 : (adI D t f S).1 = 0
      · have ha : agI D f t (F, S) = some (F, (adI D t f S).2) := by
          unfold agI
          rw [if_neg e, if_pos e0]
        rw [if_pos e0] at q1 q0
        simp (disch := omega) only [g_X3_goThrough_77, g_X3_goThrough_79, g_X3_goThrough_81, g_X3_goThrough_84, g_X3_goThrough_85, g_X3_goThrough_86, g_X3_goThrough_89, lk_X3_goThrough, XI, Nat.reduceAdd, Nat.reduceEqDiff, not_false_eq_true, nI_T1, nI_T0, true_and, and_true, WC, WV, WU, e0, nI_00, not_true_eq_false, if_true, if_false, nI_addS]
        exact ih (k + 1) F _ _ _ hts (by omega) (agI_ok hD hf ht hzo ha) q1 q0
      · rw [if_neg e0] at q0
        have ho2 : (adI D t f S).1 ≤ 6 := ho.2
        simp (disch := omega) only [g_X3_goThrough_77, g_X3_goThrough_79, g_X3_goThrough_81, g_X3_goThrough_84, g_X3_goThrough_85, lk_X3_goThrough, XI, Nat.reduceAdd, Nat.reduceEqDiff, not_false_eq_true, nI_T1, nI_T0, true_and, and_true, WC, WV, WU, nI_eq0S, e0, not_false_eq_true, if_true, if_false, true_or, true_and]
        exact q0 rfl _ _
theorem s_goT {b q y r : Nat} {D : Dt} (hq : cSt P b q D) (hD : D.ok) {Z : Rc} (hz : D.rc r = some Z) (hr : r < 8) (hy : cRc P b y r Z) {F S : Nat → Nat × Nat} (hzo : zOk (F, S))
    (q1 : ∀ x, agL D (F r) Z.its (F, S) = some x → Q (sk_w P n s I (AJ J x.1 x.2) R) (some (.int (nI 1)))) (q0 : agL D (F r) Z.its (F, S) = none → ∀ F' S', Q (sk_w P n s I (AJ J F' S') R) (some (.int (nI 0)))) : rs_XM (d + 6) yX3_goThrough [.ref 45, .ref q, .ref y] (sk_w P n s I (AJ J F S) R) Q := by
  obtain ⟨V, i, U, h1, h2, v0, v1, v2, v3, v4, un, us⟩ := id hy
  rw [em_X3_goThrough]
  simp (disch := omega) only [g_X3_goThrough_0, g_X3_goThrough_1, g_X3_goThrough_4, g_X3_goThrough_5, g_X3_goThrough_8, g_X3_goThrough_11, g_X3_goThrough_12, g_X3_goThrough_13, g_X3_goThrough_16, g_X3_goThrough_18, g_X3_goThrough_20, g_X3_goThrough_21, g_X3_goThrough_23, g_X3_goThrough_24, lk_X3_goThrough, XI, Nat.reduceAdd, Nat.reduceEqDiff, not_false_eq_true, nI_T1, nI_T0, true_and, and_true, WC, WV, WU, sk_cP n s I _ R h1, sk_cP n s I _ R h2, v0, v1, su_at_54, AJ_55 J F S hr]
  exact X3_goT_l P n s I J R d Q hq hD hz h2 un us (hzo.1 r hr) Z.its 0 F S none none rfl (by decide) hzo q1 q0
theorem bt_not {a b : Nat} (ha : a < 256) (hb : b < 256) : nI a &&& (nI b ^^^ (-1)) = nI (a &&& (b ^^^ 4294967295)) := by
  have e1 : (-1 : Int32) = nI 4294967295 := by decide
  have e2 : nI b ^^^ nI 4294967295 = nI (b ^^^ 4294967295) := by
    refine bt_inj ?_
    have h1 := bt_tn (a := b) (by omega)
    have h2 := bt_tn (a := 4294967295) (by omega)
    have h3 := bt_tn (a := b ^^^ 4294967295) (Nat.xor_lt_two_pow (n := 32) (by omega) (by omega))
    rw [Int32.toBitVec_xor, BitVec.toNat_xor, h1, h2, h3]
  rw [e1, e2]
  exact bt_and (by omega) (Nat.xor_lt_two_pow (n := 32) (by omega) (by omega))
theorem bt_notb {D : Dt} (W : Nat) {k : Nat} (hk : k < 8) : (W &&& (dIn D W 8 ^^^ 4294967295)).testBit k = frB D W k := by
  unfold frB
  rw [Nat.testBit_and, Nat.testBit_xor, show (4294967295 : Nat) = 2 ^ 32 - 1 from rfl, Nat.testBit_two_pow_sub_one, decide_eq_true (show k < 32 by omega), Bool.xor_true]
theorem X3_low_l {D : Dt} {W : Nat} (x0 : Value) (hW : W < 256) (hd8 : dIn D W 8 < 256) : ∀ (m k : Nat), k + m = 8 → loF (frB D W) m k < 8 → (rs_X (d + 1) yX3_lowestUncontained 12 [some x0, some (.int (nI W)), some (.int (nI (W &&& (dIn D W 8 ^^^ 4294967295)))), some (.int (nI k))] [] (sk_w P n s I J R) Q ↔ Q (sk_w P n s I J R) (some (.int (nI (loF (frB D W) m k))))) := by
  have hle : W &&& (dIn D W 8 ^^^ 4294967295) ≤ W := Nat.and_le_left
  intro m
  induction m with
  | zero =>
    intro k hk h
    have h : k < 8 := h
    omega
  | succ m ih =>
    intro k hk h
    rw [loF_s] at h ⊢
    rw [g_X3_lowestUncontained_12]
    simp (disch := omega) only [g_X3_lowestUncontained_13, g_X3_lowestUncontained_15, g_X3_lowestUncontained_18, g_X3_lowestUncontained_19, g_X3_lowestUncontained_20, g_X3_lowestUncontained_23, g_X3_lowestUncontained_26, g_X3_lowestUncontained_27, g_X3_lowestUncontained_28, g_X3_lowestUncontained_31, lk_X3_lowestUncontained, XI, Nat.reduceAdd, Nat.reduceEqDiff, not_false_eq_true, nI_T1, nI_T0, true_and, and_true, WC, WV, WU, rs_b_0, rs_b_ok2, true_or, or_true, Classical.not_not, not_true_eq_false, if_true, if_false, reduceCtorEq, nI_leS, s_X11_isSet, bt_notb W (show k < 8 by omega), nI_addS]
    rw [if_neg (by omega)]
    by_cases e : frB D W k = true
    · simp only [e, not_true_eq_false, if_false, if_true]
    · rw [if_neg e] at h
      simp only [e, not_false_eq_true, if_true, Bool.false_eq_true, if_false]
      exact ih (k + 1) (by omega) h
theorem s_low {b q : Nat} {D : Dt} (hq : cSt P b q D) (hD : D.ok) {W : Nat} (hW : W < 256) (hn : nxD D W < 8) : rs_XM (d + 3) yX3_lowestUncontained [.ref q, .int (nI W)] (sk_w P n s I J R) Q ↔ Q (sk_w P n s I J R) (some (.int (nI (nxD D W)))) := by
  have hd8 := dIn_le hD W 8
  rw [em_X3_lowestUncontained]
  simp (disch := omega) only [g_X3_lowestUncontained_0, g_X3_lowestUncontained_1, g_X3_lowestUncontained_2, g_X3_lowestUncontained_3, g_X3_lowestUncontained_6, g_X3_lowestUncontained_7, g_X3_lowestUncontained_8, g_X3_lowestUncontained_9, g_X3_lowestUncontained_10, g_X3_lowestUncontained_11, lk_X3_lowestUncontained, XI, Nat.reduceAdd, Nat.reduceEqDiff, not_false_eq_true, nI_T1, nI_T0, true_and, and_true, WC, WV, WU, k_St P n s I J R hq, s_din P n s I J R _ _ hq hD, bt_not hW hd8]
  exact X3_low_l P n s I J R (d + 2) Q (.ref q) hW hd8 8 0 rfl hn
end
