/-! the reference goes through a recipe once more -/
theorem gd_irr (D : Dt) : ∀ m r, gd D m r → ¬ (diR D r).testBit r = true
  | 0, r, h => h.elim
  | m + 1, r, h => fun z => gd_irr D m r (gd_di h z) z
theorem dK_in (l : List It) : ∀ (k j : Nat) (t : It), j < k → l[j]? = some t → 12 ≤ t.so → (dK l k).testBit (t.so - 12) = true
  | 0, j, t, hj, _, _ => absurd hj (Nat.not_lt_zero j)
  | k + 1, j, t, hj, ht, e => by
    rw [dK_s]
    by_cases ek : j = k
    · subst ek
      rw [ht]
      dsimp only
      rw [if_pos e, Nat.testBit_or, Nat.testBit_two_pow, decide_eq_true rfl, Bool.or_true]
    · have h := dK_in l k j t (by omega) ht e
      cases hs : l[k]? with
      | none => exact h
      | some u =>
        dsimp only
        split
        · rw [Nat.testBit_or, h, Bool.true_or]
        · exact h
/-- what the items of a recipe are, where its needs are known -/
def okI (D : Dt) (r : Nat) (t : It) : Prop := (t.so < 12 → ¬ (D.ig t.so).gr t.un = none) ∧ (12 ≤ t.so → ¬ D.rc (t.so - 12) = none ∧ ¬ t.so - 12 = r)
theorem gd_okI {D : Dt} (hD : D.ok) {m r : Nat} (h : gd D (m + 1) r) {Z : Rc} (hz : D.rc r = some Z) (t : It) (ht : t ∈ Z.its) : okI D r t := by
  obtain ⟨Y, hy, hall⟩ := (gd_s D m r).mp h
  rw [hz] at hy
  cases hy
  refine ⟨(hall t ht).1, fun e => ⟨fun z => ?_, fun z => ?_⟩⟩
  · have := (hall t ht).2 e
    cases m with
    | zero => exact this.elim
    | succ m =>
      obtain ⟨Y, hy, _⟩ := (gd_s D m _).mp this
      rw [z] at hy
      cases hy
  · refine gd_irr D (m + 1) r h ?_
    obtain ⟨j, hj⟩ := List.mem_iff_getElem?.mp ht
    have h6 := (hD.1 r Z hz).2.2.1
    have hj2 := (List.getElem?_eq_some_iff.mp hj).1
    unfold diR
    rw [hz]
    have := dK_in Z.its 6 j t (by omega) hj e
    rw [z] at this
    exact this
section
variable (P : Nat → Option rs_C) (n s : Nat) (R : Nat → Nat → Option Nat) (d : Nat) (Q : rs_H → Option Value → Prop)
theorem X12_goT_e (I : Nat → Nat → Int32) (J : Nat → Nat → Int64) {D : Dt} (hM : mDt (I 62) D) {r k : Nat} (hr : r < 8) (hk : k ≤ 6) (hD : D.ok) (h8 : I 61 8 = nI 1) (z3 z4 z5 : Option Value) (hQ : Q (sk_w P n s I J R) none) : rs_X (d + 3) yX12_goThrough 2 [some (.ref 61), some (.int (nI r)), some (.int (nI k)), z3, z4, z5] [] (sk_w P n s I J R) Q := by
  have hlen := mRc_len hM hr
  have hl : (match D.rc r with
    | none => 0
    | some Z => Z.its.length) ≤ 6 := by
    cases hz : D.rc r with
    | none => exact Nat.zero_le _
    | some Z => exact (hD.1 r Z hz).2.2.1
  obtain ⟨len, hl, hlen⟩ : ∃ len, len ≤ 6 ∧ I 62 (30 * r + 1) = nI len := ⟨_, hl, hlen⟩
  rw [g_X12_goThrough_2]
  simp (disch := omega) only [g_X12_goThrough_3, g_X12_goThrough_4, g_X12_goThrough_7, g_X12_goThrough_9, g_X12_goThrough_10, g_X12_goThrough_11, g_X12_goThrough_12, g_X12_goThrough_13, g_X12_goThrough_14, g_X12_goThrough_17, g_X12_goThrough_18, g_X12_goThrough_21, lk_X12_goThrough, g_X12_goThrough_225, lk_X12_goThrough, XI, Nat.reduceAdd, Nat.reduceEqDiff, not_false_eq_true, nI_T1, nI_T0, true_and, and_true, WC, WV, WU, nI_mulS, nI_addS, nI_cl, rs_in_t, hlen, nI_leS, h8, nI_10f, not_false_eq_true, if_true]
  split
  · exact hQ
  · exact hQ
theorem X12_goT_l {D : Dt} (hD : D.ok) {r : Nat} (hr : r < 8) {Z : Rc} (hz : D.rc r = some Z) : ∀ (l : List It) (k : Nat) (I : Nat → Nat → Int32) (J : Nat → Nat → Int64) (F S : Nat → Nat × Nat) (z3 z4 z5 : Option Value), Z.its.drop k = l → k ≤ Z.its.length → mDt (I 62) D → AS I J (F, S) → zOk (F, S) → (∀ t, t ∈ l → okI D r t) →
    (∀ x I' J', agL D (F r) l (F, S) = some x → fI I I' → aA J J' → AS I' J' x → Q (sk_w P n s I' J' R) none) → (∀ I' J', agL D (F r) l (F, S) = none → fI I I' → aA J J' → I' 61 8 = nI 1 → Q (sk_w P n s I' J' R) none) →
    rs_X (d + 3) yX12_goThrough 2 [some (.ref 61), some (.int (nI r)), some (.int (nI k)), z3, z4, z5] [] (sk_w P n s I J R) Q := by
  have hZ := (hD.1 r Z hz).2
  have hl6 := hZ.2.1
  intro l
  induction l with
  | nil =>
    intro k I J F S z3 z4 z5 hl hk hM hA hzo hok q1 q0
    have hlen : Z.its.length = k := Nat.le_antisymm (List.drop_eq_nil_iff.mp hl) hk
    have e1 := mRc_len hM hr
    rw [hz] at e1
    dsimp only at e1
    rw [g_X12_goThrough_2]
    simp (disch := omega) only [g_X12_goThrough_3, g_X12_goThrough_4, g_X12_goThrough_7, g_X12_goThrough_9, g_X12_goThrough_10, g_X12_goThrough_11, g_X12_goThrough_12, g_X12_goThrough_13, g_X12_goThrough_14, lk_X12_goThrough, g_X12_goThrough_225, lk_X12_goThrough, XI, Nat.reduceAdd, Nat.reduceEqDiff, not_false_eq_true, nI_T1, nI_T0, true_and, and_true, WC, WV, WU, nI_mulS, nI_addS, nI_cl, rs_in_t, e1, nI_leS, hlen, Nat.le_refl, if_true]
    exact q1 (F, S) I J rfl (fI_r I) (aA_r J) hA
  | cons t ts ih =>
    intro k I J F S z3 z4 z5 hl hk hM hA hzo hok q1 q0
    obtain ⟨h8, mS12, mF8⟩ := id hA
    have hs : Z.its[k]? = some t := by
      have e : (Z.its.drop k)[0]? = some t := by rw [hl]; rfl
      rw [List.getElem?_drop] at e
      exact e
    have hts : Z.its.drop (k + 1) = ts := by
      have e := congrArg (List.drop 1) hl
      rw [List.drop_drop] at e
      exact e
    have hkl := (List.getElem?_eq_some_iff.mp hs).1
    have ht := hZ.2.2.1 k t hs
    have hso := ht.2.2.2
    have hu := ht.2.2.1
    have ham := ht.1
    have hokt := hok t List.mem_cons_self
    have hfr := hzo.1 r hr
    have f1 : J 82 r = lN (F r).1 := (mF8 r hr).1
    have f2 : J 83 r = lN (F r).2 := (mF8 r hr).2
    have hrc := hM.1 r hr
    rw [hz] at hrc
    obtain ⟨e0, e1, e2, e3, e4, e5, e7⟩ := hrc
    obtain ⟨p0, p1, p2, p3⟩ := e7 k t hs
    rw [agL_c] at q1 q0
    rw [g_X12_goThrough_2]
    simp (disch := omega) only [g_X12_goThrough_3, g_X12_goThrough_4, g_X12_goThrough_7, g_X12_goThrough_9, g_X12_goThrough_10, g_X12_goThrough_11, g_X12_goThrough_12, g_X12_goThrough_13, g_X12_goThrough_14, g_X12_goThrough_17, g_X12_goThrough_18, g_X12_goThrough_21, g_X12_goThrough_24, g_X12_goThrough_25, g_X12_goThrough_26, g_X12_goThrough_29, g_X12_goThrough_30, g_X12_goThrough_31, g_X12_goThrough_34, g_X12_goThrough_35, g_X12_goThrough_36, g_X12_goThrough_37, g_X12_goThrough_38, g_X12_goThrough_40, g_X12_goThrough_41, g_X12_goThrough_42, g_X12_goThrough_45, g_X12_goThrough_46, g_X12_goThrough_47, g_X12_goThrough_48, g_X12_goThrough_49, g_X12_goThrough_52, g_X12_goThrough_53, g_X12_goThrough_54, g_X12_goThrough_55, g_X12_goThrough_56, g_X12_goThrough_57, g_X12_goThrough_60, g_X12_goThrough_61, g_X12_goThrough_62, g_X12_goThrough_65, g_X12_goThrough_66, g_X12_goThrough_67, g_X12_goThrough_68, g_X12_goThrough_71, g_X12_goThrough_72, g_X12_goThrough_73, lk_X12_goThrough, XI, Nat.reduceAdd, Nat.reduceEqDiff, not_false_eq_true, nI_T1, nI_T0, true_and, and_true, WC, WV, WU, nI_mulS, nI_addS, nI_cl, rs_in_t, e1, nI_leS, h8, nI_00, not_true_eq_false, if_false, s_X12_itemAt, p0, p1, p3, s_X12_set, nI_long ham.1, nI_long ham.2.2.1, rs_u2_ne, f1, f2]
    rw [if_neg (by omega)]
    refine s_X12_times _ P n s I _ R _ (MO_set J h8 ham) hfr.1 hfr.2.1 hfr.2.2.1 ?_
    intro I1 J1 m1
    rw [omul_c] at m1
    have i62 : ∀ j, I1 62 j = I 62 j := fun j => m1.2.1 62 j (by omega)
    have hM1 : mDt (I1 62) D := by rw [show I1 62 = I 62 from funext i62]; exact hM
    by_cases e : 12 ≤ t.so
    · have hc8 : t.so - 12 < 8 := by omega
      have elt : ¬ t.so < 12 := by omega
      obtain ⟨n1, n2⟩ := hokt.2 e
      cases hy : D.rc (t.so - 12) with
      | none => exact absurd hy n1
      | some Y =>
        have hY := (hD.1 _ _ hy).2
        have hyl := hY.2.2.2.1
        have hyc := hM.1 (t.so - 12) hc8
        rw [hy] at hyc
        obtain ⟨y0, y1, y2, y3, y4, y5, y7⟩ := hyc
        simp (disch := omega) only [g_X12_goThrough_76, g_X12_goThrough_78, g_X12_goThrough_80, lk_X12_goThrough, g_X12_goThrough_140, g_X12_goThrough_142, g_X12_goThrough_144, g_X12_goThrough_145, g_X12_goThrough_147, g_X12_goThrough_148, g_X12_goThrough_149, g_X12_goThrough_152, g_X12_goThrough_154, g_X12_goThrough_156, g_X12_goThrough_157, g_X12_goThrough_158, g_X12_goThrough_159, g_X12_goThrough_160, g_X12_goThrough_161, g_X12_goThrough_162, g_X12_goThrough_163, g_X12_goThrough_164, g_X12_goThrough_167, g_X12_goThrough_169, g_X12_goThrough_171, g_X12_goThrough_172, g_X12_goThrough_173, g_X12_goThrough_174, g_X12_goThrough_175, g_X12_goThrough_176, lk_X12_goThrough, XI, Nat.reduceAdd, Nat.reduceEqDiff, not_false_eq_true, nI_T1, nI_T0, true_and, and_true, WC, WV, WU, nI_ltS, nI_leS, elt, e, if_true, if_false, nI_subS, nI_mulS, nI_addS, nI_cl, rs_in_t, i62, y2, y3, nI_long hyl.1, nI_long hyl.2.2.1]
        refine s_X12_times _ P n s I1 J1 R _ m1.1 hyl.2.2.1 hY.2.2.2.2.1 hyl.1 ?_
        intro I2 J2 m2
        rw [odiv_c] at m2
        have m12 := MOf_t m1 m2
        have j82 : ∀ j, J2 82 j = J 82 j := fun j => by rw [m12.2.2 82 j (by omega), rs_u2_ne _ _ (by omega), rs_u2_ne _ _ (by omega)]
        have j83 : ∀ j, J2 83 j = J 83 j := fun j => by rw [m12.2.2 83 j (by omega), rs_u2_ne _ _ (by omega), rs_u2_ne _ _ (by omega)]
        have g1 := (mF8 (t.so - 12) hc8).1
        have g2 := (mF8 (t.so - 12) hc8).2
        have qF := hzo.1 (t.so - 12) hc8
        dsimp only at g1 g2 qF
        simp (disch := omega) only [g_X12_goThrough_179, g_X12_goThrough_180, g_X12_goThrough_181, g_X12_goThrough_184, g_X12_goThrough_186, g_X12_goThrough_187, g_X12_goThrough_188, g_X12_goThrough_191, g_X12_goThrough_193, g_X12_goThrough_194, lk_X12_goThrough, XI, Nat.reduceAdd, Nat.reduceEqDiff, not_false_eq_true, nI_T1, nI_T0, true_and, and_true, WC, WV, WU, nI_addS, nI_cl, rs_in_t, j82, j83, g1, g2]
        refine s_X12_plus _ P n s I2 J2 R _ m2.1 qF.1 qF.2.1 qF.2.2.1 ?_
        intro I3 J3 m3
        rw [adO_c] at m3
        have m13 := MOf_t m12 m3
        have fi : fI I I3 := m13.2.1
        have fj : aA J J3 := fun q j a b c e e2 => by rw [m13.2.2 q j a, rs_u2_ne _ _ (by omega), rs_u2_ne _ _ (by omega)]
        have k3 : ∀ q j, q = 67 ∨ q = 68 ∨ q = 82 ∨ q = 83 → J3 q j = J q j := fun q j a => by rw [m13.2.2 q j (by omega), rs_u2_ne _ _ (by omega), rs_u2_ne _ _ (by omega)]
        have hM3 : mDt (I3 62) D := by rw [show I3 62 = I 62 from funext fun j => fi 62 j (by omega)]; exact hM
        have g8 := MO_g I3 J3 m3.1
        simp (disch := omega) only [g_X12_goThrough_197, g_X12_goThrough_198, g_X12_goThrough_201, g_X12_goThrough_203, g_X12_goThrough_204, g_X12_goThrough_207, g_X12_goThrough_208, g_X12_goThrough_209, g_X12_goThrough_212, g_X12_goThrough_214, g_X12_goThrough_215, g_X12_goThrough_218, g_X12_goThrough_219, g_X12_goThrough_222, lk_X12_goThrough, XI, Nat.reduceAdd, Nat.reduceEqDiff, not_false_eq_true, nI_T1, nI_T0, true_and, and_true, WC, WV, WU, nI_addS, nI_cl, rs_in_t]
        cases ha : adO (F (t.so - 12)) (odiv (omul (some t.am) (some (F r))) (some Y.yl)) with
        | none =>
          have hI : agI D (F r) t (F, S) = none := by
            unfold agI
            rw [if_pos e, hy]
            dsimp only
            rw [show fOf t (F r) Y = odiv (omul (some t.am) (some (F r))) (some Y.yl) from rfl, ha]
          rw [ha, if_pos rfl] at g8
          rw [hI] at q0
          exact X12_goT_e P n s R d Q I3 _ hM3 hr (show k + 1 ≤ 6 by omega) hD g8 _ _ _ (q0 I3 _ rfl fi (fun q j a b c e e2 => by rw [rs_u2_ne _ _ (by omega), rs_u2_ne _ _ (by omega)]; exact fj q j a b c e e2) g8)
        | some g =>
          have hI : agI D (F r) t (F, S) = some (upS F (t.so - 12) g, S) := by
            unfold agI
            rw [if_pos e, hy]
            dsimp only
            rw [show fOf t (F r) Y = odiv (omul (some t.am) (some (F r))) (some Y.yl) from rfl, ha]
          rw [ha] at g8 m3
          rw [if_neg (by intro z; cases z)] at g8
          rw [hI] at q1 q0
          have c1 : J3 61 6 = lN g.1 := m3.1.2.2.1
          have c2 : J3 61 7 = lN g.2 := m3.1.2.2.2
          have f0 : upS F (t.so - 12) g r = F r := if_neg (fun z => n2 z.symm)
          have mF3 : mS J3 82 83 8 F := fun i hi => by rw [k3 82 i (by omega), k3 83 i (by omega)]; exact mF8 i hi
          simp (disch := omega) only [rs_u2_ne, c1, c2]
          refine ih (k + 1) I3 _ (upS F (t.so - 12) g) S _ _ _ hts (by omega) hM3 ⟨g8, fun i hi => ?_, mS_up mF3 (by decide) _ _⟩ (agI_ok hD hfr ht hzo hI) (fun u hu => hok u (List.mem_cons_of_mem _ hu)) ?_ ?_
          · rw [rs_u2_ne _ _ (by omega), rs_u2_ne _ _ (by omega), rs_u2_ne _ _ (by omega), rs_u2_ne _ _ (by omega), k3 67 i (by omega), k3 68 i (by omega)]
            exact mS12 i hi
          · rw [f0]
            intro x I' J' hx gi gj
            exact q1 x I' J' hx (fun q j a => (gi q j a).trans (fi q j a)) (aA_t (fun q j a b c e e2 => by rw [rs_u2_ne _ _ (by omega), rs_u2_ne _ _ (by omega)]; exact fj q j a b c e e2) gj)
          · rw [f0]
            intro I' J' hx gi gj
            exact q0 I' J' hx (fun q j a => (gi q j a).trans (fi q j a)) (aA_t (fun q j a b c e e2 => by rw [rs_u2_ne _ _ (by omega), rs_u2_ne _ _ (by omega)]; exact fj q j a b c e e2) gj)
    · have hs12 : t.so < 12 := by omega
      cases hg : (D.ig t.so).gr t.un with
      | none => exact absurd hg (hokt.1 hs12)
      | some g =>
        simp (disch := omega) only [g_X12_goThrough_76, g_X12_goThrough_78, g_X12_goThrough_80, g_X12_goThrough_83, g_X12_goThrough_84, g_X12_goThrough_86, g_X12_goThrough_87, g_X12_goThrough_90, g_X12_goThrough_91, g_X12_goThrough_92, g_X12_goThrough_93, g_X12_goThrough_94, lk_X12_goThrough, XI, Nat.reduceAdd, Nat.reduceEqDiff, not_false_eq_true, nI_T1, nI_T0, true_and, and_true, WC, WV, WU, nI_ltS, nI_leS, hs12, e, if_true, if_false, nI_addS, nI_cl, rs_in_t, i62, p2]
        refine s_timesGrams P n s I1 J1 R _ _ hM1 hD hs12 hu hg m1.1 ?_
        intro I2 J2 m2
        have m12 := MOf_t m1 m2
        have j67 : ∀ j, J2 67 j = J 67 j := fun j => by rw [m12.2.2 67 j (by omega), rs_u2_ne _ _ (by omega), rs_u2_ne _ _ (by omega)]
        have j68 : ∀ j, J2 68 j = J 68 j := fun j => by rw [m12.2.2 68 j (by omega), rs_u2_ne _ _ (by omega), rs_u2_ne _ _ (by omega)]
        have g1 := (mS12 t.so hs12).1
        have g2 := (mS12 t.so hs12).2
        have qF := hzo.2 t.so hs12
        dsimp only at g1 g2 qF
        simp (disch := omega) only [g_X12_goThrough_97, g_X12_goThrough_98, g_X12_goThrough_99, g_X12_goThrough_102, g_X12_goThrough_104, g_X12_goThrough_105, g_X12_goThrough_106, g_X12_goThrough_109, g_X12_goThrough_111, g_X12_goThrough_112, lk_X12_goThrough, XI, Nat.reduceAdd, Nat.reduceEqDiff, not_false_eq_true, nI_T1, nI_T0, true_and, and_true, WC, WV, WU, nI_addS, nI_cl, rs_in_t, j67, j68, g1, g2]
        refine s_X12_plus _ P n s I2 J2 R _ m2.1 qF.1 qF.2.1 qF.2.2.1 ?_
        intro I3 J3 m3
        rw [adO_c] at m3
        have m13 := MOf_t m12 m3
        have fi : fI I I3 := m13.2.1
        have fj : aA J J3 := fun q j a b c e e2 => by rw [m13.2.2 q j a, rs_u2_ne _ _ (by omega), rs_u2_ne _ _ (by omega)]
        have k3 : ∀ q j, q = 67 ∨ q = 68 ∨ q = 82 ∨ q = 83 → J3 q j = J q j := fun q j a => by rw [m13.2.2 q j (by omega), rs_u2_ne _ _ (by omega), rs_u2_ne _ _ (by omega)]
        have hM3 : mDt (I3 62) D := by rw [show I3 62 = I 62 from funext fun j => fi 62 j (by omega)]; exact hM
        have g8 := MO_g I3 J3 m3.1
        simp (disch := omega) only [g_X12_goThrough_115, g_X12_goThrough_116, g_X12_goThrough_119, g_X12_goThrough_121, g_X12_goThrough_122, g_X12_goThrough_125, g_X12_goThrough_126, g_X12_goThrough_127, g_X12_goThrough_130, g_X12_goThrough_132, g_X12_goThrough_133, g_X12_goThrough_136, g_X12_goThrough_137, lk_X12_goThrough, g_X12_goThrough_219, g_X12_goThrough_222, lk_X12_goThrough, XI, Nat.reduceAdd, Nat.reduceEqDiff, not_false_eq_true, nI_T1, nI_T0, true_and, and_true, WC, WV, WU, nI_addS, nI_cl, rs_in_t]
        cases ha : adO (S t.so) (omul (omul (some t.am) (some (F r))) (some g)) with
        | none =>
          have hI : agI D (F r) t (F, S) = none := by
            have hA1 : adI D t (F r) S = (5, S) := by
              unfold adI
              rw [hg]
              dsimp only
              rw [ha]
            unfold agI
            rw [if_neg e]
            dsimp only
            simp only [hA1]
            rfl
          rw [ha, if_pos rfl] at g8
          rw [hI] at q0
          exact X12_goT_e P n s R d Q I3 _ hM3 hr (show k + 1 ≤ 6 by omega) hD g8 _ _ _ (q0 I3 _ rfl fi (fun q j a b c e e2 => by rw [rs_u2_ne _ _ (by omega), rs_u2_ne _ _ (by omega)]; exact fj q j a b c e e2) g8)
        | some g3 =>
          have hI : agI D (F r) t (F, S) = some (F, upS S t.so g3) := by
            have hA1 : adI D t (F r) S = (0, upS S t.so g3) := by
              unfold adI
              rw [hg]
              dsimp only
              rw [ha]
            unfold agI
            rw [if_neg e]
            dsimp only
            simp only [hA1]
            rfl
          rw [ha] at g8 m3
          rw [if_neg (by intro z; cases z)] at g8
          rw [hI] at q1 q0
          have c1 : J3 61 6 = lN g3.1 := m3.1.2.2.1
          have c2 : J3 61 7 = lN g3.2 := m3.1.2.2.2
          have mS3 : mS J3 67 68 12 S := fun i hi => by rw [k3 67 i (by omega), k3 68 i (by omega)]; exact mS12 i hi
          simp (disch := omega) only [rs_u2_ne, c1, c2]
          refine ih (k + 1) I3 _ F (upS S t.so g3) _ _ _ hts (by omega) hM3 ⟨g8, mS_up mS3 (by decide) _ _, fun i hi => ?_⟩ (agI_ok hD hfr ht hzo hI) (fun u hu => hok u (List.mem_cons_of_mem _ hu)) ?_ ?_
          · rw [rs_u2_ne _ _ (by omega), rs_u2_ne _ _ (by omega), rs_u2_ne _ _ (by omega), rs_u2_ne _ _ (by omega), k3 82 i (by omega), k3 83 i (by omega)]
            exact mF8 i hi
          · intro x I' J' hx gi gj
            exact q1 x I' J' hx (fun q j a => (gi q j a).trans (fi q j a)) (aA_t (fun q j a b c e e2 => by rw [rs_u2_ne _ _ (by omega), rs_u2_ne _ _ (by omega)]; exact fj q j a b c e e2) gj)
          · intro I' J' hx gi gj
            exact q0 I' J' hx (fun q j a => (gi q j a).trans (fi q j a)) (aA_t (fun q j a b c e e2 => by rw [rs_u2_ne _ _ (by omega), rs_u2_ne _ _ (by omega)]; exact fj q j a b c e e2) gj)
theorem s_X12_goT {D : Dt} (hD : D.ok) {m r : Nat} (hr : r < 8) (hg : gd D (m + 1) r) {Z : Rc} (hz : D.rc r = some Z) {I : Nat → Nat → Int32} {J : Nat → Nat → Int64} {F S : Nat → Nat × Nat} (hM : mDt (I 62) D) (hA : AS I J (F, S)) (hzo : zOk (F, S))
    (q1 : ∀ x I' J', agL D (F r) Z.its (F, S) = some x → fI I I' → aA J J' → AS I' J' x → Q (sk_w P n s I' J' R) none) (q0 : ∀ I' J', agL D (F r) Z.its (F, S) = none → fI I I' → aA J J' → I' 61 8 = nI 1 → Q (sk_w P n s I' J' R) none) : rs_XM (d + 3) yX12_goThrough [.ref 61, .int (nI r)] (sk_w P n s I J R) Q := by
  rw [em_X12_goThrough]
  simp (disch := omega) only [g_X12_goThrough_0, g_X12_goThrough_1, lk_X12_goThrough, XI, Nat.reduceAdd, Nat.reduceEqDiff, not_false_eq_true, nI_T1, nI_T0, true_and, and_true, WC, WV, WU]
  exact X12_goT_l P n s R d Q hD hr hz Z.its 0 I J F S none none none rfl (Nat.zero_le _) hM hA hzo (gd_okI hD hg hz) q1 q0
theorem s_X12_goE (I : Nat → Nat → Int32) (J : Nat → Nat → Int64) {D : Dt} (hM : mDt (I 62) D) (hD : D.ok) {r : Nat} (hr : r < 8) (h8 : I 61 8 = nI 1) (hQ : Q (sk_w P n s I J R) none) : rs_XM (d + 3) yX12_goThrough [.ref 61, .int (nI r)] (sk_w P n s I J R) Q := by
  rw [em_X12_goThrough]
  simp (disch := omega) only [g_X12_goThrough_0, g_X12_goThrough_1, lk_X12_goThrough, XI, Nat.reduceAdd, Nat.reduceEqDiff, not_false_eq_true, nI_T1, nI_T0, true_and, and_true, WC, WV, WU]
  exact X12_goT_e P n s R d Q I J hM hr (Nat.zero_le 6) hD h8 none none none hQ
end
