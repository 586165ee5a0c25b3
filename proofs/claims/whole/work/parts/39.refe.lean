/-! the reference's walk is the walk -/
section
variable (P : Nat → Option rs_C) (n s : Nat) (R : Nat → Nat → Option Nat) (d : Nat) (Q : rs_H → Option Value → Prop)
theorem X12_exit {I : Nat → Nat → Int32} {J : Nat → Nat → Int64} {h y : Nat} (hh : h < 10) (h21 : I 61 21 = nI h) (hy : ¬ y = 0) (hy6 : y ≤ 6) {c : Nat} (x0 : Int32) (x1 x2 : Int64) (z8 z9 z10 : Option Value) : rs_X d yX12_findNeed 66 [some (.ref 61), some (.int x0), some (.long x1), none, some (.long x2), none, some (.int (nI c)), some (.int (nI y)), z8, z9, z10] [] (sk_w P n s I J R) Q ↔ Q (sk_w P n s I J R) (some (.int (nI y))) := by
  rw [g_X12_findNeed_66]
  simp (disch := omega) only [g_X12_findNeed_67, g_X12_findNeed_70, g_X12_findNeed_73, g_X12_findNeed_75, lk_X12_findNeed, g_X12_findNeed_205, g_X12_findNeed_207, lk_X12_findNeed, XI, Nat.reduceAdd, Nat.reduceEqDiff, not_false_eq_true, nI_T1, nI_T0, true_and, and_true, WC, WV, WU, h21, nI_le0S, nI_eq0S, hy, if_true]
  by_cases h0 : h = 0
  · simp only [h0, if_true]
  · simp only [h0, if_false]
theorem HV_p {I : Nat → Nat → Int32} {J : Nat → Nat → Int64} {h : Nat} {rid rid' pos pos' : Nat → Nat} {fc fc' S : Nat → Nat × Nat} (e : ∀ j, j < h → rid j = rid' j ∧ pos j = pos' j ∧ fc j = fc' j) (hv : HV I J h rid pos fc S) : HV I J h rid' pos' fc' S := by
  refine ⟨hv.1, ?_, hv.2.2⟩
  intro j hj
  obtain ⟨e1, e2, e3⟩ := e j hj
  rw [← e1, ← e2, ← e3]
  exact hv.2.1 j hj
theorem inH_c (rid rid' : Nat → Nat) (r : Nat) : ∀ k, (∀ j, j < k → rid j = rid' j) → inH rid k r = inH rid' k r
  | 0, _ => rfl
  | k + 1, h => by rw [inH_s, inH_s, h k (by omega), inH_c rid rid' r k (fun j hj => h j (by omega))]
/-- the reference's loop, over what is left of the recipe on top -/
theorem X12_need_l {D : Dt} (hD : D.ok) {m : Nat} (ihm : ∀ (rest : List It) (h k c op : Nat) (rid pos : Nat → Nat) (fc : Nat → Nat × Nat) (Z : Rc) (I : Nat → Nat → Int32) (J : Nat → Nat → Int64) (Q : rs_H → Option Value → Prop) (x0 : Int32) (x1 x2 : Int64) (z8 z9 z10 : Option Value) (S : Nat → Nat × Nat), m = (m - 1) + 1 → (m - 1) + h = 7 → mDt (I 62) D → HV I J (h + 1) rid pos fc S → pos h = k → D.rc (rid h) = some Z → Z.its.drop k = rest → k ≤ Z.its.length → isF (fc h) → stOk S → c ≤ 300 → op < 256 → (∀ r, r < 8 → op.testBit r = inH rid (h + 1) r) → pc8 op = h + 1 →
    (∀ I' J' S' c' z8 z9 z10, gI I I' → gJ J J' → HV I' J' h rid pos fc S' → stOk S' → c' ≤ 300 → wkL D (fun r Z2 f2 z2 => wk D (m - 1) (op ||| 2 ^ r) Z2 f2 z2) op (fc h) rest (S, c) = (0, (S', c')) → rs_X (d + 4) yX12_findNeed 66 [some (.ref 61), some (.int x0), some (.long x1), none, some (.long x2), none, some (.int (nI c')), some (.int (nI 0)), z8, z9, z10] [] (sk_w P n s I' J' R) Q) →
    (∀ I' J' y, gI I I' → gJ J J' → ¬ y = 0 → (wkL D (fun r Z2 f2 z2 => wk D (m - 1) (op ||| 2 ^ r) Z2 f2 z2) op (fc h) rest (S, c)).1 = y → Q (sk_w P n s I' J' R) (some (.int (nI y)))) →
    rs_X (d + 4) yX12_findNeed 66 [some (.ref 61), some (.int x0), some (.long x1), none, some (.long x2), none, some (.int (nI c)), some (.int (nI 0)), z8, z9, z10] [] (sk_w P n s I J R) Q) :
    ∀ (rest : List It) (h k c op : Nat) (rid pos : Nat → Nat) (fc : Nat → Nat × Nat) (Z : Rc) (I : Nat → Nat → Int32) (J : Nat → Nat → Int64) (Q : rs_H → Option Value → Prop) (x0 : Int32) (x1 x2 : Int64) (z8 z9 z10 : Option Value) (S : Nat → Nat × Nat), m + h = 7 → mDt (I 62) D → HV I J (h + 1) rid pos fc S → pos h = k → D.rc (rid h) = some Z → Z.its.drop k = rest → k ≤ Z.its.length → isF (fc h) → stOk S → c ≤ 300 → op < 256 → (∀ r, r < 8 → op.testBit r = inH rid (h + 1) r) → pc8 op = h + 1 →
    (∀ I' J' S' c' z8 z9 z10, gI I I' → gJ J J' → HV I' J' h rid pos fc S' → stOk S' → c' ≤ 300 → wkL D (fun r Z2 f2 z2 => wk D m (op ||| 2 ^ r) Z2 f2 z2) op (fc h) rest (S, c) = (0, (S', c')) → rs_X (d + 4) yX12_findNeed 66 [some (.ref 61), some (.int x0), some (.long x1), none, some (.long x2), none, some (.int (nI c')), some (.int (nI 0)), z8, z9, z10] [] (sk_w P n s I' J' R) Q) →
    (∀ I' J' y, gI I I' → gJ J J' → ¬ y = 0 → (wkL D (fun r Z2 f2 z2 => wk D m (op ||| 2 ^ r) Z2 f2 z2) op (fc h) rest (S, c)).1 = y → Q (sk_w P n s I' J' R) (some (.int (nI y)))) →
    rs_X (d + 4) yX12_findNeed 66 [some (.ref 61), some (.int x0), some (.long x1), none, some (.long x2), none, some (.int (nI c)), some (.int (nI 0)), z8, z9, z10] [] (sk_w P n s I J R) Q := by
  intro rest
  induction rest with
  | nil =>
    intro h k c op rid pos fc Z I J Q x0 x1 x2 z8 z9 z10 S hmh hM hV hk hZ hl hkl hf hS hc ho hop hpc c0 c1
    obtain ⟨v1, v2, v3, v4⟩ := hV
    obtain ⟨⟨a1, a5⟩, a2, a3, a4⟩ := v2 h (by omega)
    have hrc := hM.1 (rid h) a5
    rw [hZ] at hrc
    obtain ⟨e1, e2, e3⟩ := hrc
    have hlen : Z.its.length = k := Nat.le_antisymm (List.drop_eq_nil_iff.mp hl) hkl
    have hl6 := (hD.1 _ _ hZ).2.2.1
    rw [g_X12_findNeed_66]
    simp (disch := omega) only [g_X12_findNeed_67, g_X12_findNeed_70, g_X12_findNeed_73, g_X12_findNeed_75, g_X12_findNeed_78, g_X12_findNeed_79, g_X12_findNeed_82, g_X12_findNeed_83, g_X12_findNeed_84, g_X12_findNeed_86, g_X12_findNeed_87, g_X12_findNeed_90, g_X12_findNeed_92, g_X12_findNeed_93, g_X12_findNeed_95, g_X12_findNeed_96, g_X12_findNeed_99, g_X12_findNeed_101, g_X12_findNeed_102, g_X12_findNeed_103, g_X12_findNeed_106, g_X12_findNeed_108, g_X12_findNeed_110, g_X12_findNeed_111, g_X12_findNeed_112, g_X12_findNeed_113, g_X12_findNeed_114, g_X12_findNeed_117, g_X12_findNeed_118, g_X12_findNeed_119, g_X12_findNeed_122, g_X12_findNeed_123, g_X12_findNeed_124, g_X12_findNeed_127, lk_X12_findNeed, g_X12_findNeed_202, lk_X12_findNeed, XI, Nat.reduceAdd, Nat.reduceEqDiff, not_false_eq_true, nI_T1, nI_T0, true_and, and_true, WC, WV, WU, v1, nI_le0S, nI_eq0S, Nat.succ_ne_zero, if_false, not_true_eq_false, nI_subS, Nat.add_sub_cancel, nI_cl, rs_in_t, a1, a2, hk, nI_mulS, nI_addS, e2, hlen]
    refine c0 _ _ S c _ _ _ (gI_u21 (fun _ _ _ _ _ => rfl) _) (fun _ _ _ _ _ _ _ => rfl) ⟨rs_u2_eq _ _ _ _, ?_, v3, ?_⟩ hS hc rfl
    · intro j hj
      rw [rs_u2_ne _ _ (by omega), rs_u2_ne _ _ (by omega)]
      exact v2 j (by omega)
    · rw [rs_u2_ne _ _ (by omega)]
      exact v4
  | cons t ts ihl =>
    intro h k c op rid pos fc Z I J Q x0 x1 x2 z8 z9 z10 S hmh hM hV hk hZ hl hkl hf hS hc ho hop hpc c0 c1
    obtain ⟨v1, v2, v3, v4⟩ := id hV
    obtain ⟨⟨a1, a5⟩, a2, a3, a4⟩ := v2 h (by omega)
    have hrc := hM.1 (rid h) a5
    rw [hZ] at hrc
    obtain ⟨e1, e2, e3, e4, e5, e6, e7⟩ := hrc
    have hZok := (hD.1 _ _ hZ).2
    have hl6 := hZok.2.1
    have hs : Z.its[k]? = some t := by
      have e : (Z.its.drop k)[0]? = some t := by rw [hl]; rfl
      rw [List.getElem?_drop] at e
      exact e
    have hts : Z.its.drop (k + 1) = ts := by
      have e := congrArg (List.drop 1) hl
      rw [List.drop_drop] at e
      exact e
    have hkl2 := (List.getElem?_eq_some_iff.mp hs).1
    have hit := e7 k t hs
    have ht := hZok.2.2.1 k t hs
    have hso := ht.2.2.2
    rw [g_X12_findNeed_66]
    simp (disch := omega) only [g_X12_findNeed_67, g_X12_findNeed_70, g_X12_findNeed_73, g_X12_findNeed_75, g_X12_findNeed_78, g_X12_findNeed_79, g_X12_findNeed_82, g_X12_findNeed_83, g_X12_findNeed_84, g_X12_findNeed_86, g_X12_findNeed_87, g_X12_findNeed_90, g_X12_findNeed_92, g_X12_findNeed_93, g_X12_findNeed_95, g_X12_findNeed_96, g_X12_findNeed_99, g_X12_findNeed_101, g_X12_findNeed_102, g_X12_findNeed_103, g_X12_findNeed_106, g_X12_findNeed_108, g_X12_findNeed_110, g_X12_findNeed_111, g_X12_findNeed_112, g_X12_findNeed_113, g_X12_findNeed_114, g_X12_findNeed_117, g_X12_findNeed_118, g_X12_findNeed_119, g_X12_findNeed_122, g_X12_findNeed_123, g_X12_findNeed_124, g_X12_findNeed_127, g_X12_findNeed_130, g_X12_findNeed_132, g_X12_findNeed_133, g_X12_findNeed_136, g_X12_findNeed_138, g_X12_findNeed_139, g_X12_findNeed_142, g_X12_findNeed_144, g_X12_findNeed_145, g_X12_findNeed_148, g_X12_findNeed_150, g_X12_findNeed_151, g_X12_findNeed_152, g_X12_findNeed_153, g_X12_findNeed_154, g_X12_findNeed_155, g_X12_findNeed_158, g_X12_findNeed_160, g_X12_findNeed_163, lk_X12_findNeed, XI, Nat.reduceAdd, Nat.reduceEqDiff, not_false_eq_true, nI_T1, nI_T0, true_and, and_true, WC, WV, WU, v1, nI_le0S, nI_eq0S, Nat.succ_ne_zero, if_false, not_true_eq_false, nI_subS, Nat.add_sub_cancel, nI_cl, rs_in_t, a1, a2, hk, nI_mulS, nI_addS, e2, nI_eqS, s_X12_itemAt, nI_leS]
    rw [if_pos (by omega)]
    generalize hI1 : rs_u2 I 70 h (nI (k + 1)) = I1
    have g1 : gI I I1 := by rw [← hI1]; exact gI_u70 (fun _ _ _ _ _ => rfl) _ _
    have hM1 := gI_m g1 hM
    have hV1 : HV I1 J (h + 1) rid (fun i => if i = h then k + 1 else pos i) fc S := by
      rw [← hI1]
      refine ⟨by rw [rs_u2_ne _ _ (by omega)]; exact v1, ?_, v3, by rw [rs_u2_ne _ _ (by omega)]; exact v4⟩
      intro j hj
      obtain ⟨b1, b2, b3⟩ := v2 j hj
      rw [rs_u2_ne _ _ (by omega)]
      refine ⟨b1, ?_, b3⟩
      by_cases e : j = h
      · subst e
        rw [rs_u2_eq]
        dsimp only
        rw [if_pos rfl]
      · rw [rs_u2_ne _ _ (fun z => e z.2)]
        dsimp only
        rw [if_neg e]
        exact b2
    have i62 : I1 62 = I 62 := funext fun j => g1 62 j (by omega) (by decide) (by decide)
    have hit1 : mIt (I1 62) (30 * rid h + 6 + 4 * k) t := by rw [i62]; exact hit
    obtain ⟨w1, w2, w3, w4⟩ := id hV1
    have hgood : ∀ r Z f S c, Z.ok → isF f → stOk S → c ≤ 300 → wkG ((fun r Z2 f2 z2 => wk D m (op ||| 2 ^ r) Z2 f2 z2) r Z f (S, c)) := fun r Z f S c hZ hf hS hc => wk_ok hD m _ r Z f S c hZ hf hS hc
    by_cases h3 : c + 1 ≤ 300
    · have hb := wkB_ok hD hgood op hf ht hS h3
      rw [if_pos h3]
      rw [wkL_c _ _ _ _ _ _ _ h3] at c1
      simp only [wkL_c _ _ _ _ _ _ _ h3] at c0
      simp (disch := omega) only [g_X12_findNeed_171, g_X12_findNeed_172, g_X12_findNeed_175, g_X12_findNeed_177, g_X12_findNeed_178, g_X12_findNeed_179, g_X12_findNeed_180, g_X12_findNeed_182, lk_X12_findNeed, XI, Nat.reduceAdd, Nat.reduceEqDiff, not_false_eq_true, nI_T1, nI_T0, true_and, and_true, WC, WV, WU, nI_addS, nI_cl, rs_in_t, hit1.2.2.2, nI_leS]
      by_cases h12 : 12 ≤ t.so
      · have eB : wkB D (fun r Z2 f2 z2 => wk D m (op ||| 2 ^ r) Z2 f2 z2) op (fc h) t (S, c + 1) = wkA D (fun r Z2 f2 z2 => wk D m (op ||| 2 ^ r) Z2 f2 z2) op (fc h) t (S, c + 1) := if_pos h12
        rw [eB] at hb c1
        simp only [eB] at c0
        rw [if_pos h12]
        have hbit : op.testBit (t.so - 12) = inH rid (h + 1) (t.so - 12) := hop (t.so - 12) (by omega)
        simp (disch := omega) only [g_X12_findNeed_194, g_X12_findNeed_195, g_X12_findNeed_197, lk_X12_findNeed, XI, Nat.reduceAdd, Nat.reduceEqDiff, not_false_eq_true, nI_T1, nI_T0, true_and, and_true, WC, WV, WU]
        refine s_walkRecipe P n s I1 J R _ _ hM1 hD (by omega) hit1 ht h12 (show h < 8 by omega) w1 (fun j hj => (w2 j hj).1) hf (w2 h (by omega)).2.2.1 (w2 h (by omega)).2.2.2 w4 ?_ ?_
        · intro hne I2 J2 fi fk
          have eA := wrC_n (fun r Z2 f2 z2 => wk D m (op ||| 2 ^ r) Z2 f2 z2) (S, c + 1) hbit hne
          rw [eA] at hb c1
          generalize (wrC D t (fc h) (inH rid (h + 1) (t.so - 12))).1 = y at hne hb c1 ⊢
          have b1 : y ≤ 6 := hb.1
          simp (disch := omega) only [g_X12_findNeed_200, g_X12_findNeed_202, lk_X12_findNeed, XI, Nat.reduceAdd, Nat.reduceEqDiff, not_false_eq_true, nI_T1, nI_T0, true_and, and_true, WC, WV, WU]
          rw [X12_exit P n s R _ _ (show h + 1 < 10 by omega) (by rw [fi 61 21 (by omega)]; exact w1) hne b1]
          dsimp only at c1
          rw [if_neg hne] at c1
          exact c1 I2 J2 y (gI_t g1 (fI_g fi)) (fK_g fk) hne rfl
        · intro h0 I2 J2 fi fk g8
          obtain ⟨Z2, hZ2, hfo, hnb, eA⟩ := wrC_0 (fun r Z2 f2 z2 => wk D m (op ||| 2 ^ r) Z2 f2 z2) (S, c + 1) hbit h0
          simp only [eA] at hb c1 c0
          generalize (wrC D t (fc h) (inH rid (h + 1) (t.so - 12))).2 = f2 at hfo hb c1 c0 ⊢
          have hr8 : t.so - 12 < 8 := by omega
          have hZ2ok := (hD.1 _ _ hZ2).2
          have hf2 : isF f2 := fOf_ok ht hf hZ2ok f2 hfo
          have e28 : 2 ^ (t.so - 12) < 2 ^ 8 := Nat.pow_lt_pow_right (by decide) hr8
          have ho2 : op ||| 2 ^ (t.so - 12) < 256 := Nat.or_lt_two_pow (n := 8) ho e28
          have hpc2 : pc8 (op ||| 2 ^ (t.so - 12)) = h + 1 + 1 := by rw [pc8_s op ho _ hr8 hnb, hpc]
          simp (disch := omega) only [g_X12_findNeed_200, g_X12_findNeed_202, lk_X12_findNeed, XI, Nat.reduceAdd, Nat.reduceEqDiff, not_false_eq_true, nI_T1, nI_T0, true_and, and_true, WC, WV, WU]
          have gI3 : gI I (rs_u2 (rs_u2 (rs_u2 I2 69 (h + 1) (nI (t.so - 12))) 70 (h + 1) (nI 0)) 61 21 (nI (h + 2))) := gI_u21 (gI_u70 (gI_u69 (gI_t g1 (fI_g fi)) _ _) _ _) _
          have gJ3 : gJ J (rs_u2 (rs_u2 J2 71 (h + 1) (lN f2.1)) 72 (h + 1) (lN f2.2)) := gJ_u72 (gJ_u71 (fK_g fk) _ _) _ _
          have hV3 : HV (rs_u2 (rs_u2 (rs_u2 I2 69 (h + 1) (nI (t.so - 12))) 70 (h + 1) (nI 0)) 61 21 (nI (h + 2))) (rs_u2 (rs_u2 J2 71 (h + 1) (lN f2.1)) 72 (h + 1) (lN f2.2)) (h + 1 + 1) (fun i => if i = h + 1 then t.so - 12 else rid i) (fun i => if i = h + 1 then 0 else if i = h then k + 1 else pos i) (fun i => if i = h + 1 then f2 else fc i) S := by
            refine ⟨rs_u2_eq _ _ _ _, ?_, ?_, ?_⟩
            · intro j hj
              rw [rs_u2_ne _ _ (show ¬ (69 = 61 ∧ j = 21) by omega), rs_u2_ne _ _ (show ¬ (69 = 70 ∧ j = h + 1) by omega), rs_u2_ne _ _ (show ¬ (70 = 61 ∧ j = 21) by omega), rs_u2_ne _ _ (show ¬ (71 = 72 ∧ j = h + 1) by omega)]
              dsimp only
              by_cases e : j = h + 1
              · subst e
                rw [if_pos rfl, if_pos rfl, if_pos rfl, rs_u2_eq, rs_u2_eq, rs_u2_eq, rs_u2_eq]
                exact ⟨⟨rfl, hr8⟩, rfl, rfl, rfl⟩
              · rw [if_neg e, if_neg e, if_neg e, rs_u2_ne _ _ (fun z => e z.2), rs_u2_ne _ _ (fun z => e z.2), rs_u2_ne _ _ (fun z => e z.2), rs_u2_ne _ _ (fun z => e z.2), rs_u2_ne _ _ (fun z => e z.2), rs_u2_ne _ _ (fun z => e z.2), fi 69 j (by omega), fi 70 j (by omega), fk 71 j (by omega), fk 72 j (by omega)]
                exact w2 j (by omega)
            · intro j hj
              rw [rs_u2_ne _ _ (by omega), rs_u2_ne _ _ (by omega), rs_u2_ne _ _ (by omega), rs_u2_ne _ _ (by omega), fk 67 j (by omega), fk 68 j (by omega)]
              exact v3 j hj
            · rw [rs_u2_ne _ _ (by omega), rs_u2_ne _ _ (by omega), rs_u2_ne _ _ (by omega)]
              exact g8
          have hop2 : ∀ r, r < 8 → (op ||| 2 ^ (t.so - 12)).testBit r = inH (fun i => if i = h + 1 then t.so - 12 else rid i) (h + 1 + 1) r := by
            intro r hr
            rw [inH_s, inH_c _ rid r (h + 1) (fun j hj => if_neg (by omega)), if_pos rfl, Nat.testBit_or, hop r hr, Nat.testBit_two_pow]
          cases m with
          | zero => exact absurd (pc8_8 op ho (by omega) _ hr8) hnb
          | succ m =>
            have eW : wk D (m + 1) (op ||| 2 ^ (t.so - 12)) Z2 f2 (S, c + 1) = wkL D (fun r Z2 f2 z2 => wk D m (op ||| 2 ^ (t.so - 12) ||| 2 ^ r) Z2 f2 z2) (op ||| 2 ^ (t.so - 12)) f2 Z2.its (S, c + 1) := rfl
            simp only [Nat.add_sub_cancel] at ihm
            rw [eW] at hb c1
            simp only [eW] at c0
            have eF : (fun i => if i = h + 1 then f2 else fc i) (h + 1) = f2 := if_pos rfl
            refine ihm Z2.its (h + 1) 0 (c + 1) (op ||| 2 ^ (t.so - 12)) _ _ _ Z2 _ _ Q x0 x1 x2 _ _ _ S trivial (by omega) (gI_m gI3 hM) hV3 (if_pos rfl) (by rw [if_pos rfl]; exact hZ2) rfl (Nat.zero_le _) (by rw [if_pos rfl]; exact hf2) hS h3 ho2 hop2 hpc2 ?_ ?_
            · intro I4 J4 S4 c4 y8 y9 y10 gi gj hv hs4 hc4 e
              rw [if_pos rfl] at e
              rw [e] at c1
              simp only [e, if_true] at c0
              rw [if_pos rfl] at c1
              have gI4 := gI_t gI3 gi
              have gJ4 := gJ_t gJ3 gj
              have hV4 : HV I4 J4 (h + 1) rid (fun i => if i = h then k + 1 else pos i) fc S4 := HV_p (fun j hj => ⟨if_neg (by omega), if_neg (by omega), if_neg (by omega)⟩) hv
              refine ihl h (k + 1) c4 op rid _ fc Z I4 J4 Q x0 x1 x2 _ _ _ S4 hmh (gI_m gI4 hM) hV4 (if_pos rfl) hZ hts (by omega) hf hs4 hc4 ho hop hpc ?_ ?_
              · intro I' J' S' c' y8 y9 y10 gi gj hv hs' hc' e
                exact c0 I' J' S' c' _ _ _ (gI_t gI4 gi) (gJ_t gJ4 gj) (HV_p (fun j hj => ⟨rfl, if_neg (by omega), rfl⟩) hv) hs' hc' e
              · intro I' J' y gi gj hy e
                exact c1 I' J' y (gI_t gI4 gi) (gJ_t gJ4 gj) hy e
            · intro I4 J4 y gi gj hy e
              rw [if_pos rfl] at e
              rw [if_neg (by rw [e]; exact hy)] at c1
              exact c1 I4 J4 y (gI_t gI3 gi) (gJ_t gJ3 gj) hy e
      · have eB : wkB D (fun r Z2 f2 z2 => wk D m (op ||| 2 ^ r) Z2 f2 z2) op (fc h) t (S, c + 1) = ((adI D t (fc h) S).1, ((adI D t (fc h) S).2, c + 1)) := if_neg h12
        rw [eB] at hb c1
        simp only [eB] at c0
        rw [if_neg h12]
        simp (disch := omega) only [g_X12_findNeed_185, g_X12_findNeed_186, g_X12_findNeed_188, lk_X12_findNeed, XI, Nat.reduceAdd, Nat.reduceEqDiff, not_false_eq_true, nI_T1, nI_T0, true_and, and_true, WC, WV, WU]
        refine s_walkIngredient P n s I1 J R _ _ hM1 hD (by omega) hit1 ht (by omega) (show h < 9 by omega) w1 hf (w2 h (by omega)).2.2.1 (w2 h (by omega)).2.2.2 hS w3 w4 ?_
        intro I2 J2 fi fj mS2 z8'
        generalize adI D t (fc h) S = a at hb c1 c0 mS2 z8'
        obtain ⟨r1, S1⟩ := a
        dsimp only at hb c1 c0 mS2 z8' ⊢
        have b1 : r1 ≤ 6 := hb.1
        have g2 := gI_t g1 (fI_g fi)
        have j2 : gJ J J2 := fJ_g fj
        simp (disch := omega) only [g_X12_findNeed_191, g_X12_findNeed_194, g_X12_findNeed_195, g_X12_findNeed_197, g_X12_findNeed_200, g_X12_findNeed_202, lk_X12_findNeed, XI, Nat.reduceAdd, Nat.reduceEqDiff, not_false_eq_true, nI_T1, nI_T0, true_and, and_true, WC, WV, WU]
        by_cases h0 : r1 = 0
        · subst h0
          rw [if_pos rfl] at c1
          simp only [if_true] at c0
          have hV2 : HV I2 J2 (h + 1) rid (fun i => if i = h then k + 1 else pos i) fc S1 := by
            refine ⟨by rw [fi 61 21 (by omega)]; exact w1, ?_, mS2, z8' rfl⟩
            intro j hj
            rw [fi 69 j (by omega), fi 70 j (by omega), fj 71 j (by omega) (by decide) (by decide), fj 72 j (by omega) (by decide) (by decide)]
            exact w2 j hj
          refine ihl h (k + 1) (c + 1) op rid _ fc Z I2 J2 Q x0 x1 x2 _ _ _ S1 hmh (gI_m g2 hM) hV2 (if_pos rfl) hZ hts (by omega) hf hb.2.1 h3 ho hop hpc ?_ ?_
          · intro I' J' S' c' y8 y9 y10 gi gj hv hs' hc' e
            exact c0 I' J' S' c' _ _ _ (gI_t g2 gi) (gJ_t j2 gj) (HV_p (fun j hj => ⟨rfl, if_neg (by omega), rfl⟩) hv) hs' hc' e
          · intro I' J' y gi gj hy e
            exact c1 I' J' y (gI_t g2 gi) (gJ_t j2 gj) hy e
        · rw [X12_exit P n s R _ _ (show h + 1 < 10 by omega) (by rw [fi 61 21 (by omega)]; exact w1) h0 b1]
          rw [if_neg h0] at c1
          exact c1 I2 J2 r1 g2 j2 h0 rfl
    · rw [if_neg h3]
      simp (disch := omega) only [g_X12_findNeed_166, g_X12_findNeed_168, lk_X12_findNeed, g_X12_findNeed_200, g_X12_findNeed_202, lk_X12_findNeed, XI, Nat.reduceAdd, Nat.reduceEqDiff, not_false_eq_true, nI_T1, nI_T0, true_and, and_true, WC, WV, WU]
      rw [X12_exit P n s R _ _ (show h + 1 < 10 by omega) w1 (show ¬ 6 = 0 by decide) (Nat.le_refl 6)]
      rw [wkL_o _ _ _ _ _ _ _ (by omega)] at c1
      exact c1 I1 J 6 g1 (fun _ _ _ _ _ _ _ => rfl) (by decide) rfl
end
