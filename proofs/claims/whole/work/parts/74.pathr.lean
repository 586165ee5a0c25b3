/-! the reference's walk for a path; both -/
def HP (I : Nat → Nat → Int32) (h : Nat) (rid pos : Nat → Nat) : Prop := I 61 21 = nI h ∧ ∀ k, k < h → I 69 k = nI (rid k) ∧ rid k < 8 ∧ I 70 k = nI (pos k)
theorem HP_p {I : Nat → Nat → Int32} {h : Nat} {rid rid' pos pos' : Nat → Nat} (e : ∀ j, j < h → rid j = rid' j ∧ pos j = pos' j) (hv : HP I h rid pos) : HP I h rid' pos' := by
  refine ⟨hv.1, fun j hj => ?_⟩
  obtain ⟨e1, e2⟩ := e j hj
  rw [← e1, ← e2]
  exact hv.2 j hj
def EL (P : Nat → Option rs_C) (n s : Nat) (R : Nat → Nat → Option Nat) (d : Nat) (Q : rs_H → Option Value → Prop) (D : Dt) (a m : Nat) : Prop := ∀ (rest : List It) (h k op : Nat) (rid pos : Nat → Nat) (Z : Rc) (I : Nat → Nat → Int32) (J : Nat → Nat → Int64) (z2 z3 z4 : Option Value), m + h = 19 → mDt (I 62) D → HP I (h + 1) rid pos → pos h = k → D.rc (rid h) = some Z → Z.its.drop k = rest → k ≤ Z.its.length → op < 256 → (∀ r, r < 8 → op.testBit r = inH rid (h + 1) r) → pc8 op = h + 1 →
  (∀ I' J' z2 z3 z4, (pwL D a (fun c => pw D a m op c) rest).1 = 0 → gI I I' → gJ J J' → HP I' h rid pos → rs_X (d + 3) yX12_endOfPath 19 [some (.ref 61), some (.int (nI a)), z2, z3, z4] [] (sk_w P n s I' J' R) Q) →
  (∀ I' J' i, (pwL D a (fun c => pw D a m op c) rest).1 = 1 → gI I I' → gJ J J' → I' 61 21 = nI (h + (pwL D a (fun c => pw D a m op c) rest).2.length) → h + (pwL D a (fun c => pw D a m op c) rest).2.length ≤ 8 → (∀ j, j < h + 1 → I' 69 j = nI (rid j)) → (∀ (j v : Nat), (pwL D a (fun c => pw D a m op c) rest).2[j]? = some v → j + 1 < (pwL D a (fun c => pw D a m op c) rest).2.length → I' 69 (h + 1 + j) = nI v ∧ v < 8) → i < 12 → (pwL D a (fun c => pw D a m op c) rest).2[(pwL D a (fun c => pw D a m op c) rest).2.length - 1]? = some (100 + i) → 1 ≤ (pwL D a (fun c => pw D a m op c) rest).2.length → Q (sk_w P n s I' J' R) (some (.int (nI i)))) →
  (∀ I' J', (pwL D a (fun c => pw D a m op c) rest).1 = 2 → gI I I' → gJ J J' → Q (sk_w P n s I' J' R) (some (.int (-2)))) →
  rs_X (d + 3) yX12_endOfPath 19 [some (.ref 61), some (.int (nI a)), z2, z3, z4] [] (sk_w P n s I J R) Q
theorem EL_s {P : Nat → Option rs_C} {n s : Nat} {R : Nat → Nat → Option Nat} {d : Nat} {Q : rs_H → Option Value → Prop} {D : Dt} (hD : D.ok) {a : Nat} (ha : a ≤ 7) {m : Nat} (ihm : ∀ m', m = m' + 1 → EL P n s R d Q D a m') : EL P n s R d Q D a m := by
  intro rest
  induction rest with
  | nil =>
    intro h k op rid pos Z I J z2 z3 z4 hmh hM hV hk hZ hl hkl hop hbit hpc q0 q1 q2
    obtain ⟨v1, v2⟩ := id hV
    obtain ⟨a1, a5, a2⟩ := v2 h (by omega)
    have hrc := hM.1 (rid h) a5
    rw [hZ] at hrc
    obtain ⟨e1, e2, e3⟩ := hrc
    have hlen : Z.its.length = k := Nat.le_antisymm (List.drop_eq_nil_iff.mp hl) hkl
    have hl6 := (hD.1 _ _ hZ).2.2.1
    have h8 := pc8_le op
    rw [g_X12_endOfPath_19]
    simp (disch := omega) only [g_X12_endOfPath_20, g_X12_endOfPath_23, g_X12_endOfPath_26, g_X12_endOfPath_27, g_X12_endOfPath_30, g_X12_endOfPath_31, g_X12_endOfPath_32, g_X12_endOfPath_33, g_X12_endOfPath_34, g_X12_endOfPath_37, g_X12_endOfPath_38, g_X12_endOfPath_39, g_X12_endOfPath_40, g_X12_endOfPath_41, g_X12_endOfPath_44, g_X12_endOfPath_45, g_X12_endOfPath_46, g_X12_endOfPath_47, g_X12_endOfPath_50, g_X12_endOfPath_52, g_X12_endOfPath_53, g_X12_endOfPath_54, g_X12_endOfPath_55, g_X12_endOfPath_56, g_X12_endOfPath_57, g_X12_endOfPath_60, g_X12_endOfPath_61, g_X12_endOfPath_62, g_X12_endOfPath_65, g_X12_endOfPath_66, g_X12_endOfPath_67, g_X12_endOfPath_70, lk_X12_endOfPath, g_X12_endOfPath_197, lk_X12_endOfPath, XI, Nat.reduceAdd, Nat.reduceEqDiff, not_false_eq_true, nI_T1, nI_T0, true_and, and_true, WC, WV, WU, v1, nI_le0S, Nat.succ_ne_zero, if_false, nI_subS, Nat.add_sub_cancel, nI_cl, rs_in_t, a1, a2, hk, nI_mulS, nI_addS, e2, hlen, not_true_eq_false]
    refine q0 _ J _ _ _ rfl (gI_u21 (fun _ _ _ _ _ => rfl) _) (fun _ _ _ _ _ _ _ => rfl) ⟨rs_u2_eq _ _ _ _, fun j hj => ?_⟩
    rw [rs_u2_ne _ _ (by omega), rs_u2_ne _ _ (by omega)]
    exact v2 j (by omega)
  | cons t ts ihl =>
    intro h k op rid pos Z I J z2 z3 z4 hmh hM hV hk hZ hl hkl hop hbit hpc q0 q1 q2
    obtain ⟨v1, v2⟩ := id hV
    obtain ⟨a1, a5, a2⟩ := v2 h (by omega)
    have hrc := hM.1 (rid h) a5
    rw [hZ] at hrc
    obtain ⟨e1, e2, e3, e4, e5, e6, e7⟩ := hrc
    have hZok := (hD.1 _ _ hZ).2
    have hl6 := hZok.2.1
    have h8 := pc8_le op
    have hs : Z.its[k]? = some t := by
      have e : (Z.its.drop k)[0]? = some t := by rw [hl]; rfl
      rw [List.getElem?_drop] at e
      exact e
    have hts : Z.its.drop (k + 1) = ts := by
      have e := congrArg (List.drop 1) hl
      rw [List.drop_drop] at e
      exact e
    have hkl2 := (List.getElem?_eq_some_iff.mp hs).1
    have hit := e7 k t hs
    have ht := hZok.2.2.1 k t hs
    have hso := ht.2.2.2
    have it4 := hit.2.2.2
    have kne : ¬ k = Z.its.length := by omega
    rw [pwL_c] at q0 q1 q2
    rw [g_X12_endOfPath_19]
    simp (disch := omega) only [g_X12_endOfPath_20, g_X12_endOfPath_23, g_X12_endOfPath_26, g_X12_endOfPath_27, g_X12_endOfPath_30, g_X12_endOfPath_31, g_X12_endOfPath_32, g_X12_endOfPath_33, g_X12_endOfPath_34, g_X12_endOfPath_37, g_X12_endOfPath_38, g_X12_endOfPath_39, g_X12_endOfPath_40, g_X12_endOfPath_41, g_X12_endOfPath_44, g_X12_endOfPath_45, g_X12_endOfPath_46, g_X12_endOfPath_47, g_X12_endOfPath_50, g_X12_endOfPath_52, g_X12_endOfPath_53, g_X12_endOfPath_54, g_X12_endOfPath_55, g_X12_endOfPath_56, g_X12_endOfPath_57, g_X12_endOfPath_60, g_X12_endOfPath_61, g_X12_endOfPath_62, g_X12_endOfPath_65, g_X12_endOfPath_66, g_X12_endOfPath_67, g_X12_endOfPath_70, g_X12_endOfPath_73, g_X12_endOfPath_74, g_X12_endOfPath_77, g_X12_endOfPath_78, g_X12_endOfPath_79, g_X12_endOfPath_82, g_X12_endOfPath_83, g_X12_endOfPath_84, g_X12_endOfPath_87, g_X12_endOfPath_88, g_X12_endOfPath_89, g_X12_endOfPath_90, g_X12_endOfPath_92, g_X12_endOfPath_93, g_X12_endOfPath_96, g_X12_endOfPath_97, g_X12_endOfPath_98, g_X12_endOfPath_99, g_X12_endOfPath_100, g_X12_endOfPath_101, g_X12_endOfPath_102, g_X12_endOfPath_104, g_X12_endOfPath_106, lk_X12_endOfPath, XI, Nat.reduceAdd, Nat.reduceEqDiff, not_false_eq_true, nI_T1, nI_T0, true_and, and_true, WC, WV, WU, v1, nI_le0S, Nat.succ_ne_zero, if_false, nI_subS, Nat.add_sub_cancel, nI_cl, rs_in_t, a1, a2, hk, nI_mulS, nI_addS, e2, nI_eqS, kne, not_false_eq_true, if_true, s_X12_itemAt, it4, nI_leS]
    generalize hI1 : rs_u2 I 70 h (nI (k + 1)) = I1
    have g1 : gI I I1 := by rw [← hI1]; exact gI_u70 (fun _ _ _ _ _ => rfl) _ _
    have hM1 := gI_m g1 hM
    have hV1 : HP I1 (h + 1) rid (fun i => if i = h then k + 1 else pos i) := by
      rw [← hI1]
      refine ⟨by rw [rs_u2_ne _ _ (by omega)]; exact v1, fun j hj => ?_⟩
      obtain ⟨b1, b2, b3⟩ := v2 j hj
      rw [rs_u2_ne _ _ (by omega)]
      refine ⟨b1, b2, ?_⟩
      by_cases e : j = h
      · subst e
        rw [rs_u2_eq]
        dsimp only
        rw [if_pos rfl]
      · rw [rs_u2_ne _ _ (fun z => e z.2)]
        dsimp only
        rw [if_neg e]
        exact b3
    have w1 := hV1.1
    have hrid : ∀ k, k < h + 1 → I1 69 k = nI (rid k) ∧ rid k < 8 := fun k hk => ⟨(hV1.2 k hk).1, (hV1.2 k hk).2.1⟩
    have cont : ∀ (z2 z3 z4 : Option Value), (pwL D a (fun c => pw D a m op c) (t :: ts) = pwL D a (fun c => pw D a m op c) ts) → rs_X (d + 3) yX12_endOfPath 19 [some (.ref 61), some (.int (nI a)), z2, z3, z4] [] (sk_w P n s I1 J R) Q := by
      intro z2 z3 z4 he
      rw [pwL_c] at he
      rw [he] at q0 q1 q2
      refine ihl h (k + 1) op rid _ Z I1 J _ _ _ hmh hM1 hV1 (if_pos rfl) hZ hts (by omega) hop hbit hpc ?_ ?_ ?_
      · intro I' J' z2 z3 z4 e gi gj hv
        exact q0 I' J' z2 z3 z4 e (gI_t g1 gi) gj (HP_p (fun j hj => ⟨rfl, if_neg (by omega)⟩) hv)
      · intro I' J' i e gi gj
        exact q1 I' J' i e (gI_t g1 gi) gj
      · intro I' J' e gi gj
        exact q2 I' J' e (gI_t g1 gi) gj
    by_cases e : 12 ≤ t.so
    · rw [if_pos e] at q0 q1 q2
      rw [if_pos e]
      have hc8 : t.so - 12 < 8 := by omega
      have hb := hbit (t.so - 12) hc8
      have elt : ¬ t.so < 12 := by omega
      simp (disch := omega) only [g_X12_endOfPath_145, g_X12_endOfPath_147, g_X12_endOfPath_149, g_X12_endOfPath_152, g_X12_endOfPath_153, g_X12_endOfPath_155, g_X12_endOfPath_157, g_X12_endOfPath_158, g_X12_endOfPath_161, lk_X12_endOfPath, XI, Nat.reduceAdd, Nat.reduceEqDiff, not_false_eq_true, nI_T1, nI_T0, true_and, and_true, WC, WV, WU, nI_ltS, elt, if_false, nI_subS, s_isInHand P n s I1 J R _ _ (show h + 1 ≤ 9 by omega) w1 hrid hc8, rs_b_0]
      obtain ⟨m', rfl⟩ : ∃ m', m = m' + 1 := ⟨m - 1, by omega⟩
      by_cases hin : inH rid (h + 1) (t.so - 12) = true
      · have epw : pw D a (m' + 1) op (t.so - 12) = (2, []) := by rw [pw_s, if_pos (by rw [hb]; exact hin)]
        simp only [epw] at q2
        rw [if_neg (show ¬ (2 : Nat) = 0 by decide), if_neg (show ¬ (2 : Nat) = 1 by decide)] at q2
        rw [if_neg (fun z => z hin)]
        simp (disch := omega) only [g_X12_endOfPath_164, g_X12_endOfPath_166, lk_X12_endOfPath, XI, Nat.reduceAdd, Nat.reduceEqDiff, not_false_eq_true, nI_T1, nI_T0, true_and, and_true, WC, WV, WU]
        exact q2 I1 J rfl g1 (fun _ _ _ _ _ _ _ => rfl)
      · have hnb : ¬ op.testBit (t.so - 12) = true := by rw [hb]; exact hin
        rw [if_pos hin]
        simp (disch := omega) only [g_X12_endOfPath_167, g_X12_endOfPath_169, g_X12_endOfPath_171, g_X12_endOfPath_174, g_X12_endOfPath_175, g_X12_endOfPath_177, g_X12_endOfPath_179, g_X12_endOfPath_180, g_X12_endOfPath_183, lk_X12_endOfPath, XI, Nat.reduceAdd, Nat.reduceEqDiff, not_false_eq_true, nI_T1, nI_T0, true_and, and_true, WC, WV, WU, nI_ltS, elt, if_false, nI_subS, s_X12_isThere _ _ _ _ _ _ _ _ hc8, rs_b_0]
        by_cases hz : D.rc (t.so - 12) = none
        · have epw : pw D a (m' + 1) op (t.so - 12) = (0, []) := by rw [pw_s, if_neg hnb, hz]
          have en : ¬ I1 62 (30 * (t.so - 12)) = nI 1 := fun z => ((s_rowIsThere hM1 hc8).mp z) hz
          rw [if_pos en]
          simp (disch := omega) only [g_X12_endOfPath_197, lk_X12_endOfPath, XI, Nat.reduceAdd, Nat.reduceEqDiff, not_false_eq_true, nI_T1, nI_T0, true_and, and_true, WC, WV, WU]
          refine cont _ _ _ ?_
          rw [pwL_c, if_pos e]
          simp only [epw, if_true]
        · have ey : I1 62 (30 * (t.so - 12)) = nI 1 := (s_rowIsThere hM1 hc8).mpr hz
          cases hz2 : D.rc (t.so - 12) with
          | none => exact absurd hz2 hz
          | some Z2 =>
            have epw : pw D a (m' + 1) op (t.so - 12) = pwL D a (fun c => pw D a m' (op ||| 2 ^ (t.so - 12)) c) Z2.its := by rw [pw_s, if_neg hnb, hz2]
            simp only [epw] at q0 q1 q2
            have hpc2 := pc8_s op hop _ hc8 hnb
            have h82 := pc8_le (op ||| 2 ^ (t.so - 12))
            have ho2 := or_lt8 hop (pow_lt8 hc8)
            rw [if_neg (fun z => z ey)]
            simp (disch := omega) only [g_X12_endOfPath_186, g_X12_endOfPath_187, g_X12_endOfPath_189, g_X12_endOfPath_191, g_X12_endOfPath_192, g_X12_endOfPath_193, g_X12_endOfPath_194, g_X12_endOfPath_197, lk_X12_endOfPath, XI, Nat.reduceAdd, Nat.reduceEqDiff, not_false_eq_true, nI_T1, nI_T0, true_and, and_true, WC, WV, WU, nI_subS, s_takeInHand P n s I1 J R _ _ (show h + 1 < 9 by omega) w1]
            have gI3 : gI I (rs_u2 (rs_u2 (rs_u2 I1 69 (h + 1) (nI (t.so - 12))) 70 (h + 1) (nI 0)) 61 21 (nI (h + 1 + 1))) := gI_u21 (gI_u70 (gI_u69 g1 _ _) _ _) _
            have gJ3 : gJ J (rs_u2 (rs_u2 J 71 (h + 1) (lN 1)) 72 (h + 1) (lN 1)) := gJ_u72 (gJ_u71 (fun _ _ _ _ _ _ _ => rfl) _ _) _ _
            have hV3 : HP (rs_u2 (rs_u2 (rs_u2 I1 69 (h + 1) (nI (t.so - 12))) 70 (h + 1) (nI 0)) 61 21 (nI (h + 1 + 1))) (h + 1 + 1) (fun i => if i = h + 1 then t.so - 12 else rid i) (fun i => if i = h + 1 then 0 else if i = h then k + 1 else pos i) := by
              refine ⟨rs_u2_eq _ _ _ _, fun j hj => ?_⟩
              rw [rs_u2_ne _ _ (show ¬ (69 = 61 ∧ j = 21) by omega), rs_u2_ne _ _ (show ¬ (69 = 70 ∧ j = h + 1) by omega), rs_u2_ne _ _ (show ¬ (70 = 61 ∧ j = 21) by omega)]
              dsimp only
              by_cases e : j = h + 1
              · subst e
                rw [if_pos rfl, if_pos rfl, rs_u2_eq, rs_u2_eq]
                exact ⟨rfl, hc8, rfl⟩
              · rw [if_neg e, if_neg e, rs_u2_ne _ _ (fun z => e z.2), rs_u2_ne _ _ (fun z => e z.2), rs_u2_ne _ _ (by omega)]
                exact hV1.2 j (by omega)
            have hop2 : ∀ r, r < 8 → (op ||| 2 ^ (t.so - 12)).testBit r = inH (fun i => if i = h + 1 then t.so - 12 else rid i) (h + 1 + 1) r := by
              intro r hr
              rw [inH_s, inH_c _ rid r (h + 1) (fun j hj => if_neg (by omega)), if_pos rfl, Nat.testBit_or, hbit r hr, Nat.testBit_two_pow]
            refine ihm m' rfl Z2.its (h + 1) 0 (op ||| 2 ^ (t.so - 12)) _ _ Z2 _ _ _ _ _ (by omega) (gI_m gI3 hM) hV3 (if_pos rfl) (by rw [if_pos rfl]; exact hz2) rfl (Nat.zero_le _) ho2 hop2 (by rw [hpc2, hpc]) ?_ ?_ ?_
            · intro I4 J4 y2 y3 y4 e4 gi gj hv
              rw [if_pos e4] at q0 q1 q2
              refine ihl h (k + 1) op rid _ Z I4 J4 _ _ _ hmh (gI_m (gI_t gI3 gi) hM) (HP_p (rid' := rid) (pos' := fun i => if i = h then k + 1 else pos i) (fun j hj => ⟨if_neg (by omega), if_neg (by omega)⟩) hv) (if_pos rfl) hZ hts (by omega) hop hbit hpc ?_ ?_ ?_
              · intro I' J' z2 z3 z4 e gi2 gj2 hv2
                exact q0 I' J' z2 z3 z4 e (gI_t (gI_t gI3 gi) gi2) (gJ_t (gJ_t gJ3 gj) gj2) (HP_p (fun j hj => ⟨rfl, if_neg (by omega)⟩) hv2)
              · intro I' J' i e gi2 gj2
                exact q1 I' J' i e (gI_t (gI_t gI3 gi) gi2) (gJ_t (gJ_t gJ3 gj) gj2)
              · intro I' J' e gi2 gj2
                exact q2 I' J' e (gI_t (gI_t gI3 gi) gi2) (gJ_t (gJ_t gJ3 gj) gj2)
            · intro I4 J4 i e4 gi gj b1 b2 b3 b4 b5 b6 b7
              rw [if_neg (by omega), if_pos e4] at q1
              generalize (pwL D a (fun c => pw D a m' (op ||| 2 ^ (t.so - 12)) c) Z2.its).2 = sl at *
              refine q1 I4 J4 i rfl (gI_t gI3 gi) (gJ_t gJ3 gj) ?_ ?_ ?_ ?_ b5 ?_ ?_
              · rw [b1]
                dsimp only
                rw [List.length_cons]
                congr 1
                omega
              · dsimp only
                rw [List.length_cons]
                omega
              · intro j hj
                rw [b3 j (by omega), if_neg (by omega)]
              · intro j v hj hjl
                dsimp only at hj hjl
                rw [List.length_cons] at hjl
                cases j with
                | zero =>
                  cases hj
                  have := b3 (h + 1) (by omega)
                  rw [if_pos rfl] at this
                  exact ⟨this, hc8⟩
                | succ j =>
                  have h5 := b4 j v hj (by omega)
                  rw [show h + 1 + (j + 1) = h + 1 + 1 + j by omega]
                  exact h5
              · dsimp only
                rw [List.length_cons, Nat.add_sub_cancel]
                have : ((t.so - 12) :: sl)[sl.length]? = sl[sl.length - 1]? := by
                  obtain ⟨q, hq⟩ : ∃ q, sl.length = q + 1 := ⟨sl.length - 1, by omega⟩
                  rw [hq, List.getElem?_cons_succ, Nat.add_sub_cancel]
                rw [this]
                exact b6
              · dsimp only
                rw [List.length_cons]
                omega
            · intro I4 J4 e4 gi gj
              rw [if_neg (by omega), if_neg (by omega)] at q2
              exact q2 I4 J4 rfl (gI_t gI3 gi) (gJ_t gJ3 gj)
    · rw [if_neg e] at q0 q1 q2
      have h11 : t.so < 12 := by omega
      obtain ⟨n1, n2, n3, n4, n5, n6, n7⟩ := hM1.2.1 t.so h11
      have hg := hD.2.1 t.so h11
      have hg1 := hg.2.2.1
      have hg2 := hg.2.2.2.1
      have ho := or_lt8 (show (D.ig t.so).con < 256 by omega) (show (D.ig t.so).tra < 256 by omega)
      rw [if_neg e]
      simp (disch := omega) only [g_X12_endOfPath_109, g_X12_endOfPath_110, g_X12_endOfPath_113, g_X12_endOfPath_115, g_X12_endOfPath_118, g_X12_endOfPath_119, g_X12_endOfPath_120, g_X12_endOfPath_121, g_X12_endOfPath_122, g_X12_endOfPath_125, g_X12_endOfPath_127, g_X12_endOfPath_130, g_X12_endOfPath_131, g_X12_endOfPath_132, g_X12_endOfPath_133, g_X12_endOfPath_134, g_X12_endOfPath_135, g_X12_endOfPath_136, g_X12_endOfPath_137, g_X12_endOfPath_138, g_X12_endOfPath_139, lk_X12_endOfPath, XI, Nat.reduceAdd, Nat.reduceEqDiff, not_false_eq_true, nI_T1, nI_T0, true_and, and_true, WC, WV, WU, s_X12_at, nI_addS, nI_cl, rs_in_t, n3, n4, bt_or, bit_and1]
      by_cases ec : coB D a t.so = true
      · rw [if_pos ec] at q1
        have ec2 : ((D.ig t.so).con ||| (D.ig t.so).tra).testBit a = true := ec
        rw [if_neg (fun z => z ec2)]
        simp (disch := omega) only [g_X12_endOfPath_142, g_X12_endOfPath_144, lk_X12_endOfPath, XI, Nat.reduceAdd, Nat.reduceEqDiff, not_false_eq_true, nI_T1, nI_T0, true_and, and_true, WC, WV, WU]
        refine q1 I1 J t.so rfl g1 (fun _ _ _ _ _ _ _ => rfl) w1 (by show h + 1 ≤ 8; omega) (fun j hj => (hV1.2 j hj).1) (fun j v hj hjl => ?_) h11 rfl (Nat.le_refl 1)
        have hjl : j + 1 < 1 := hjl
        omega
      · have ec2 : ¬ ((D.ig t.so).con ||| (D.ig t.so).tra).testBit a = true := ec
        rw [if_pos ec2]
        simp (disch := omega) only [g_X12_endOfPath_145, g_X12_endOfPath_147, g_X12_endOfPath_149, lk_X12_endOfPath, g_X12_endOfPath_167, g_X12_endOfPath_169, g_X12_endOfPath_171, lk_X12_endOfPath, g_X12_endOfPath_197, lk_X12_endOfPath, XI, Nat.reduceAdd, Nat.reduceEqDiff, not_false_eq_true, nI_T1, nI_T0, true_and, and_true, WC, WV, WU, nI_ltS, h11, if_true]
        refine cont _ _ _ ?_
        rw [pwL_c, if_neg e, if_neg ec]
theorem EL_all {P : Nat → Option rs_C} {n s : Nat} {R : Nat → Nat → Option Nat} {d : Nat} {Q : rs_H → Option Value → Prop} {D : Dt} (hD : D.ok) {a : Nat} (ha : a ≤ 7) : ∀ m, EL P n s R d Q D a m
  | 0 => EL_s hD ha (fun m' e => by cases e)
  | m + 1 => EL_s hD ha (fun m' e => by cases e; exact EL_all hD ha m)
theorem pw_op0 {D : Dt} {a m : Nat} {r : Nat} {Z : Rc} (hz : D.rc r = some Z) : pw D a (m + 1) 0 r = pwL D a (fun c => pw D a m (2 ^ r) c) Z.its := by
  rw [pw_s, if_neg (by rw [Nat.zero_testBit]; intro z; cases z), hz]
  dsimp only
  rw [Nat.zero_or]
theorem s_endOfPath {D : Dt} (hD : D.ok) {a : Nat} (ha : a ≤ 7) (P : Nat → Option rs_C) (n s : Nat) (I : Nat → Nat → Int32) (J : Nat → Nat → Int64) (R : Nat → Nat → Option Nat) (d : Nat) (Q : rs_H → Option Value → Prop) (hM : mDt (I 62) D) {p : Nat × (Nat × Nat)} (hp : D.pl = some p) {Z : Rc} (hz : D.rc p.1 = some Z)
    (q0 : ∀ I' J', (pw D a 20 0 p.1).1 = 0 → gI I I' → gJ J J' → Q (sk_w P n s I' J' R) (some (.int (-1))))
    (q1 : ∀ I' J' i, (pw D a 20 0 p.1).1 = 1 → gI I I' → gJ J J' → I' 61 21 = nI (pw D a 20 0 p.1).2.length → (pw D a 20 0 p.1).2.length ≤ 8 → I' 69 0 = nI p.1 → (∀ (j v : Nat), (pw D a 20 0 p.1).2[j]? = some v → j + 1 < (pw D a 20 0 p.1).2.length → I' 69 (1 + j) = nI v ∧ v < 8) → i < 12 → (pw D a 20 0 p.1).2[(pw D a 20 0 p.1).2.length - 1]? = some (100 + i) → 1 ≤ (pw D a 20 0 p.1).2.length → Q (sk_w P n s I' J' R) (some (.int (nI i))))
    (q2 : ∀ I' J', (pw D a 20 0 p.1).1 = 2 → gI I I' → gJ J J' → Q (sk_w P n s I' J' R) (some (.int (-2)))) : rs_XM (d + 3) yX12_endOfPath [.ref 61, .int (nI a)] (sk_w P n s I J R) Q := by
  have p8 := (hD.2.2.2.2 p.1 p.2 hp).1
  have hpl := hM.2.2.2.2
  rw [hp] at hpl
  have l0 : I 62 445 = nI p.1 := hpl.1
  rw [pw_op0 hz] at q0 q1 q2
  rw [em_X12_endOfPath]
  have h21 : rs_u2 I 61 21 (nI 0) 61 21 = nI 0 := rs_u2_eq _ _ _ _
  simp (disch := omega) only [g_X12_endOfPath_0, g_X12_endOfPath_1, g_X12_endOfPath_2, g_X12_endOfPath_5, g_X12_endOfPath_6, g_X12_endOfPath_7, g_X12_endOfPath_10, g_X12_endOfPath_13, g_X12_endOfPath_14, g_X12_endOfPath_15, g_X12_endOfPath_16, lk_X12_endOfPath, XI, Nat.reduceAdd, Nat.reduceEqDiff, not_false_eq_true, nI_T1, nI_T0, true_and, and_true, WC, WV, WU, rs_u2_ne, nI_cl, rs_in_t, l0, s_takeInHand P n s _ J R _ _ (show 0 < 9 by decide) h21]
  have gI3 : gI I (rs_u2 (rs_u2 (rs_u2 (rs_u2 I 61 21 (nI 0)) 69 0 (nI p.1)) 70 0 (nI 0)) 61 21 (nI (0 + 1))) := gI_u21 (gI_u70 (gI_u69 (gI_u21 (fun _ _ _ _ _ => rfl) _) _ _) _ _) _
  have gJ3 : gJ J (rs_u2 (rs_u2 J 71 0 (lN 1)) 72 0 (lN 1)) := gJ_u72 (gJ_u71 (fun _ _ _ _ _ _ _ => rfl) _ _) _ _
  have hV : HP (rs_u2 (rs_u2 (rs_u2 (rs_u2 I 61 21 (nI 0)) 69 0 (nI p.1)) 70 0 (nI 0)) 61 21 (nI (0 + 1))) (0 + 1) (fun _ => p.1) (fun _ => 0) := by
    refine ⟨rs_u2_eq _ _ _ _, fun j hj => ?_⟩
    have e : j = 0 := by omega
    subst e
    refine ⟨?_, p8, ?_⟩
    · rw [rs_u2_ne _ _ (by omega), rs_u2_ne _ _ (by omega), rs_u2_eq]
    · rw [rs_u2_ne _ _ (by omega), rs_u2_eq]
  have hop : ∀ r2, r2 < 8 → (2 ^ p.1).testBit r2 = inH (fun _ => p.1) (0 + 1) r2 := by
    intro r2 h2
    rw [inH_s, inH_0, Nat.testBit_two_pow, Bool.false_or]
  refine EL_all hD ha 19 Z.its 0 0 (2 ^ p.1) (fun _ => p.1) (fun _ => 0) Z _ _ _ _ _ rfl (gI_m gI3 hM) hV rfl hz rfl (Nat.zero_le _) (pow_lt8 p8) hop (pc8_1 p.1 p8) ?_ ?_ ?_
  · intro I' J' z2 z3 z4 e gi gj hv
    rw [g_X12_endOfPath_19]
    simp (disch := omega) only [g_X12_endOfPath_20, g_X12_endOfPath_23, lk_X12_endOfPath, g_X12_endOfPath_200, g_X12_endOfPath_201, lk_X12_endOfPath, XI, Nat.reduceAdd, Nat.reduceEqDiff, not_false_eq_true, nI_T1, nI_T0, true_and, and_true, WC, WV, WU, hv.1, nI_le0S, if_true]
    exact q0 I' J' e (gI_t gI3 gi) (gJ_t gJ3 gj)
  · intro I' J' i e gi gj b1 b2 b3 b4 b5 b6 b7
    rw [Nat.zero_add] at b1 b2
    exact q1 I' J' i e (gI_t gI3 gi) (gJ_t gJ3 gj) b1 b2 (b3 0 (by decide)) (fun j v hj hjl => by have := b4 j v hj hjl; rw [Nat.zero_add] at this; exact this) b5 b6 b7
  · intro I' J' e gi gj
    exact q2 I' J' e (gI_t gI3 gi) (gJ_t gJ3 gj)
