/-! the reference reads signs, numbers, amounts -/
theorem rs_u2_cm {α : Type} (F : Nat → Nat → α) {q j a i : Nat} (v x : α) (h : ¬ (q = a ∧ j = i)) : rs_u2 (rs_u2 F q j v) a i x = rs_u2 (rs_u2 F a i x) q j v := by
  funext b k
  by_cases h1 : b = a ∧ k = i
  · obtain ⟨rfl, rfl⟩ := h1
    rw [rs_u2_eq, rs_u2_ne _ _ (fun z => h ⟨z.1.symm, z.2.symm⟩), rs_u2_eq]
  · rw [rs_u2_ne _ _ h1]
    by_cases h2 : b = q ∧ k = j
    · obtain ⟨rfl, rfl⟩ := h2
      rw [rs_u2_eq, rs_u2_eq]
    · rw [rs_u2_ne _ _ h2, rs_u2_ne _ _ h2, rs_u2_ne _ _ h1]
theorem rs_u2_id {α : Type} (F : Nat → Nat → α) {q j : Nat} {v : α} (h : F q j = v) : rs_u2 F q j v = F := by
  funext b k
  by_cases h1 : b = q ∧ k = j
  · obtain ⟨rfl, rfl⟩ := h1
    rw [rs_u2_eq, h]
  · rw [rs_u2_ne _ _ h1]
/-- the place in the text, and whether it is wrong -/
def WR (I : Nat → Nat → Int32) (p b : Nat) : Nat → Nat → Int32 := rs_u2 (rs_u2 I 61 12 (nI p)) 61 13 (nI b)
theorem WR_12 (I : Nat → Nat → Int32) (p b q : Nat) : rs_u2 (WR I p b) 61 12 (nI q) = WR I q b := by
  unfold WR
  rw [rs_u2_cm _ _ _ (by omega), rs_u2_u2]
theorem WR_13 (I : Nat → Nat → Int32) (p b c : Nat) : rs_u2 (WR I p b) 61 13 (nI c) = WR I p c := rs_u2_u2 _ _ _ _ _
theorem WR_o (I : Nat → Nat → Int32) (p b : Nat) {q j : Nat} (v : Int32) (h1 : ¬ (q = 61 ∧ j = 12)) (h2 : ¬ (q = 61 ∧ j = 13)) : rs_u2 (WR I p b) q j v = WR (rs_u2 I q j v) p b := by
  unfold WR
  rw [rs_u2_cm _ _ _ (fun z => h2 ⟨z.1.symm, z.2.symm⟩), rs_u2_cm _ _ _ (fun z => h1 ⟨z.1.symm, z.2.symm⟩)]
theorem WR_a12 (I : Nat → Nat → Int32) (p b : Nat) : WR I p b 61 12 = nI p := by
  unfold WR
  rw [rs_u2_ne _ _ (by omega), rs_u2_eq]
theorem WR_a13 (I : Nat → Nat → Int32) (p b : Nat) : WR I p b 61 13 = nI b := rs_u2_eq _ _ _ _
theorem WR_ne (I : Nat → Nat → Int32) (p b : Nat) {q j : Nat} (h1 : ¬ (q = 61 ∧ j = 12)) (h2 : ¬ (q = 61 ∧ j = 13)) : WR I p b q j = I q j := by
  unfold WR
  rw [rs_u2_ne _ _ h2, rs_u2_ne _ _ h1]
def TI (I : Nat → Nat → Int32) (tp : List Nat) : Prop := I 61 11 = nI tp.length ∧ (∀ (k v : Nat), tp[k]? = some v → I 65 k = nI v) ∧ tp.length ≤ 60 ∧ ∀ (k v : Nat), tp[k]? = some v → v ≤ 127
def fW (I I' : Nat → Nat → Int32) : Prop := ∀ q j, ¬ q = 66 → I' q j = I q j
theorem fW_r (I : Nat → Nat → Int32) : fW I I := fun _ _ _ => rfl
theorem fW_t {I I' I2 : Nat → Nat → Int32} (h : fW I I') (h2 : fW I' I2) : fW I I2 := fun q j a => (h2 q j a).trans (h q j a)
theorem fK_r (J : Nat → Nat → Int64) : fK J J := fun _ _ _ => rfl
theorem fK_t {I I' I2 : Nat → Nat → Int64} (h : fK I I') (h2 : fK I' I2) : fK I I2 := fun q j a => (h2 q j a).trans (h q j a)
theorem TI_f {I I' : Nat → Nat → Int32} {tp : List Nat} (h : TI I tp) (f : fW I I') : TI I' tp := ⟨by rw [f 61 11 (by decide)]; exact h.1, fun k v e => by rw [f 65 k (by decide)]; exact h.2.1 k v e, h.2.2⟩
def sI (o : Option Nat) : Int32 := match o with
  | none => -1
  | some v => nI v
theorem sI_eq {o : Option Nat} (h : ∀ v, o = some v → v ≤ 127) {c : Nat} (hc : c ≤ 127) : (sI o = nI c) ↔ o = some c := by
  cases o with
  | none =>
    refine ⟨fun z => ?_, fun z => (by cases z)⟩
    have z : (-1 : Int32) = nI c := z
    exact absurd z.symm (fun y => by
      have := (nI_m1 (a := c) (by omega)).mp y
      exact this)
  | some v =>
    have hv := h v rfl
    show (nI v = nI c) ↔ _
    rw [nI_eqS (by omega) (by omega)]
    exact ⟨fun z => by rw [z], fun z => by cases z; rfl⟩
theorem sI_in {o : Option Nat} (h : ∀ v, o = some v → v ≤ 127) {lo hi : Nat} (hh : hi ≤ 127) (hl : lo ≤ hi) : (nI lo ≤ sI o ∧ sI o ≤ nI hi) ↔ ∃ v, o = some v ∧ lo ≤ v ∧ v ≤ hi := by
  cases o with
  | none =>
    refine ⟨fun z => ?_, fun ⟨v, e, _⟩ => by cases e⟩
    have z1 : nI lo ≤ (-1 : Int32) := z.1
    have z2 : nI 0 ≤ nI lo := nI_le (Nat.zero_le _) (by omega)
    exact absurd (Int32.le_trans z2 z1) (by decide)
  | some v =>
    have hv := h v rfl
    show (nI lo ≤ nI v ∧ nI v ≤ nI hi) ↔ _
    rw [nI_leS (by omega) (by omega), nI_leS (by omega) (by omega)]
    exact ⟨fun z => ⟨v, rfl, z.1, z.2⟩, fun ⟨w, e, z1, z2⟩ => by cases e; exact ⟨z1, z2⟩⟩
theorem pB_in {tp : List Nat} {lo hi p : Nat} : (∃ v, tp[p]? = some v ∧ lo ≤ v ∧ v ≤ hi) ↔ ¬ pB tp lo hi p = none := by
  unfold pB
  cases hz : tp[p]? with
  | none => exact ⟨fun ⟨v, e, _⟩ => (by cases e), fun z => absurd rfl z⟩
  | some v =>
    dsimp only
    by_cases c : lo ≤ v ∧ v ≤ hi
    · rw [if_pos c]
      exact ⟨fun _ z => (by cases z), fun _ => ⟨v, rfl, c⟩⟩
    · rw [if_neg c]
      exact ⟨fun ⟨w, e, z⟩ => (by cases e; exact absurd z c), fun z => absurd rfl z⟩
theorem pUn_n {tp : List Nat} {p : Nat} (h : (pUn tp p).2 = none) : (pUn tp p).1 = p := by
  unfold pUn at h ⊢
  by_cases c1 : tp[p]? = some 103
  · rw [if_pos c1] at h
    cases h
  · rw [if_neg c1] at h ⊢
    by_cases c2 : tp[p]? = some 109
    · rw [if_pos c2] at h
      cases h
    · rw [if_neg c2] at h ⊢
      by_cases c3 : tp[p]? = some 112
      · rw [if_pos c3] at h
        cases h
      · rw [if_neg c3]
theorem nI_10f : (nI 1 = 0) ↔ False := ⟨fun z => absurd z (by decide), fun z => z.elim⟩
section
variable {tp : List Nat} (P : Nat → Option rs_C) (n s : Nat) (I : Nat → Nat → Int32) (J : Nat → Nat → Int64) (R : Nat → Nat → Option Nat) (d : Nat) (Q : rs_H → Option Value → Prop)
theorem r_sign (hT : TI I tp) {p b : Nat} (hp : p ≤ tp.length) : rs_XM d yX12_sign [.ref 61] (sk_w P n s (WR I p b) J R) Q ↔ Q (sk_w P n s (WR I p b) J R) (some (.int (sI tp[p]?))) := by
  obtain ⟨t1, t2, t3, t4⟩ := hT
  rw [em_X12_sign]
  cases hz : tp[p]? with
  | none =>
    have hp2 : tp.length ≤ p := List.getElem?_eq_none_iff.mp hz
    simp (disch := omega) only [K_X12_sign, lk_X12_sign, XI, Nat.reduceAdd, Nat.reduceEqDiff, not_false_eq_true, nI_T1, nI_T0, true_and, and_true, WC, WV, WU, WR_a12, WR_ne, t1, nI_leS, hp2, if_true]
    exact Iff.rfl
  | some v =>
    have hlt := lt_of_get hz
    have hv := t4 p v hz
    have e1 : ¬ tp.length ≤ p := by omega
    simp (disch := omega) only [K_X12_sign, lk_X12_sign, XI, Nat.reduceAdd, Nat.reduceEqDiff, not_false_eq_true, nI_T1, nI_T0, true_and, and_true, WC, WV, WU, WR_a12, WR_ne, t1, nI_leS, e1, if_false, nI_cl, rs_in_t, t2 p v hz]
    exact Iff.rfl
theorem r_takes (hT : TI I tp) {c p b : Nat} (hc : c ≤ 127) (hp : p ≤ tp.length) (hb : b ≤ 1) : rs_XM (d + 1) yX12_takes [.ref 61, .int (nI c)] (sk_w P n s (WR I p b) J R) Q ↔ Q (sk_w P n s (WR I (if b = 0 ∧ tp[p]? = some c then p + 1 else p) b) J R) (some (.int (rs_b (b = 0 ∧ tp[p]? = some c)))) := by
  have h4 := hT.2.2.2
  rw [em_X12_takes]
  by_cases b0 : b = 0
  · subst b0
    by_cases e : tp[p]? = some c
    · have e1 : (sI tp[p]? = nI c) ↔ True := ⟨fun _ => trivial, fun _ => (sI_eq (h4 p) hc).mpr e⟩
      rw [if_pos ⟨rfl, e⟩, rs_b_t ⟨rfl, e⟩]
      simp (disch := omega) only [K_X12_takes, lk_X12_takes, XI, Nat.reduceAdd, Nat.reduceEqDiff, not_false_eq_true, nI_T1, nI_T0, true_and, and_true, WC, WV, WU, WR_a13, WR_a12, r_sign P n s I J R _ _ hT hp, e1, nI_addS, WR_12, nI_00, nI_10f, nI_11, true_or, or_true, false_or, or_false, true_and, and_true, not_true_eq_false, not_false_eq_true, if_true, if_false]
    · have e1 : (sI tp[p]? = nI c) ↔ False := ⟨fun z => e ((sI_eq (h4 p) hc).mp z), fun z => z.elim⟩
      rw [if_neg (fun z => e z.2), rs_b_f (fun z => e z.2)]
      simp (disch := omega) only [K_X12_takes, lk_X12_takes, XI, Nat.reduceAdd, Nat.reduceEqDiff, not_false_eq_true, nI_T1, nI_T0, true_and, and_true, WC, WV, WU, WR_a13, WR_a12, r_sign P n s I J R _ _ hT hp, e1, nI_addS, Nat.add_zero, WR_12, nI_00, nI_10f, nI_11, true_or, or_true, false_or, or_false, true_and, and_true, not_true_eq_false, not_false_eq_true, if_true, if_false]
  · have b1 : b = 1 := by omega
    subst b1
    rw [if_neg (fun z => b0 z.1), rs_b_f (fun z => b0 z.1)]
    simp (disch := omega) only [K_X12_takes, lk_X12_takes, XI, Nat.reduceAdd, Nat.reduceEqDiff, not_false_eq_true, nI_T1, nI_T0, true_and, and_true, WC, WV, WU, WR_a13, WR_a12, nI_addS, WR_12, Nat.add_zero, nI_00, nI_10f, nI_11, true_or, or_true, false_or, or_false, true_and, and_true, not_true_eq_false, not_false_eq_true, if_true, if_false]
theorem r_need (hT : TI I tp) {c p b : Nat} (hc : c ≤ 127) (hp : p ≤ tp.length) (hb : b ≤ 1) : rs_XM (d + 2) yX12_need [.ref 61, .int (nI c)] (sk_w P n s (WR I p b) J R) Q ↔ Q (sk_w P n s (WR I (if b = 0 ∧ tp[p]? = some c then p + 1 else p) (if b = 0 ∧ tp[p]? = some c then 0 else 1)) J R) none := by
  have ht := fun Q => r_takes P n s I J R d Q hT hc hp hb
  rw [em_X12_need]
  by_cases e : b = 0 ∧ tp[p]? = some c
  · rw [if_pos e, if_pos e]
    simp only [if_pos e, rs_b_t e] at ht
    simp (disch := omega) only [K_X12_need, lk_X12_need, XI, Nat.reduceAdd, Nat.reduceEqDiff, not_false_eq_true, nI_T1, nI_T0, true_and, and_true, WC, WV, WU, ht, WR_13, nI_00, nI_10f, nI_11, true_or, or_true, false_or, or_false, true_and, and_true, not_true_eq_false, not_false_eq_true, if_true, if_false]
  · rw [if_neg e, if_neg e]
    simp only [if_neg e, rs_b_f e] at ht
    simp (disch := omega) only [K_X12_need, lk_X12_need, XI, Nat.reduceAdd, Nat.reduceEqDiff, not_false_eq_true, nI_T1, nI_T0, true_and, and_true, WC, WV, WU, ht, WR_13, nI_00, nI_10f, nI_11, true_or, or_true, false_or, or_false, true_and, and_true, not_true_eq_false, not_false_eq_true, if_true, if_false]
theorem r_one (hT : TI I tp) {lo hi p b : Nat} (hl : lo ≤ hi) (hh : hi ≤ 127) (hp : p ≤ tp.length) (hb : b ≤ 1) : rs_XM (d + 1) yX12_one [.ref 61, .int (nI lo), .int (nI hi)] (sk_w P n s (WR I p b) J R) Q ↔ Q (sk_w P n s (if b = 0 ∧ ¬ pB tp lo hi p = none then WR I (p + 1) 0 else WR I p 1) J R) (some (.int (nI (if b = 0 then (pB tp lo hi p).getD 0 else 0)))) := by
  have h4 := hT.2.2.2
  have ht60 := hT.2.2.1
  rw [em_X12_one]
  by_cases b0 : b = 0
  · subst b0
    cases hz : pB tp lo hi p with
    | none =>
      rw [if_neg (fun z => z.2 rfl), if_pos rfl]
      simp (disch := omega) only [g_X12_one_0, g_X12_one_1, g_X12_one_4, g_X12_one_7, g_X12_one_8, g_X12_one_11, g_X12_one_12, g_X12_one_13, g_X12_one_16, g_X12_one_19, g_X12_one_20, g_X12_one_21, g_X12_one_24, g_X12_one_25, lk_X12_one, XI, Nat.reduceAdd, Nat.reduceEqDiff, not_false_eq_true, nI_T1, nI_T0, true_and, and_true, WC, WV, WU, WR_a13, r_sign P n s I J R _ _ hT hp, s_X12_in, rs_b_0, sI_in (h4 p) hh hl, pB_in, hz, WR_13, nI_00, nI_10f, nI_11, true_or, or_true, false_or, or_false, true_and, and_true, not_true_eq_false, not_false_eq_true, if_true, if_false]
      exact Iff.rfl
    | some v =>
      obtain ⟨a1, a2, a3, a4⟩ := pB_s hz
      have e65 := hT.2.1 p _ a3
      have hne : ¬ pB tp lo hi p = none := by rw [hz]; intro z; cases z
      rw [if_pos ⟨rfl, by intro z; cases z⟩, if_pos rfl]
      simp (disch := omega) only [K_X12_one, lk_X12_one, XI, Nat.reduceAdd, Nat.reduceEqDiff, not_false_eq_true, nI_T1, nI_T0, true_and, and_true, WC, WV, WU, WR_a13, r_sign P n s I J R _ _ hT hp, s_X12_in, rs_b_0, sI_in (h4 p) hh hl, pB_in, hne, WR_a12, nI_addS, WR_12, WR_ne, nI_subS, Nat.add_sub_cancel, nI_cl, rs_in_t, e65, nI_00, nI_10f, nI_11, true_or, or_true, false_or, or_false, true_and, and_true, not_true_eq_false, not_false_eq_true, if_true, if_false]
      exact Iff.rfl
  · have b1 : b = 1 := by omega
    subst b1
    rw [if_neg (fun z => b0 z.1), if_neg b0]
    simp (disch := omega) only [g_X12_one_0, g_X12_one_1, g_X12_one_4, g_X12_one_7, g_X12_one_8, g_X12_one_11, g_X12_one_12, g_X12_one_13, g_X12_one_16, g_X12_one_19, g_X12_one_20, g_X12_one_21, g_X12_one_24, g_X12_one_25, lk_X12_one, XI, Nat.reduceAdd, Nat.reduceEqDiff, not_false_eq_true, nI_T1, nI_T0, true_and, and_true, WC, WV, WU, WR_a13, WR_13, nI_00, nI_10f, nI_11, true_or, or_true, false_or, or_false, true_and, and_true, not_true_eq_false, not_false_eq_true, if_true, if_false]
/-- a number; 1 where there is none -/
theorem r_number (hT : TI I tp) {p b : Nat} (hp : p ≤ tp.length) (hb : b ≤ 1) : rs_XM (d + 2) yX12_number [.ref 61] (sk_w P n s (WR I p b) J R) Q ↔ Q (sk_w P n s (if b = 0 then WR I (pN tp p).1 (if (pN tp p).2 = none then 1 else 0) else WR I p 1) J R) (some (.int (nI (if b = 0 then (pN tp p).2.getD 1 else 1)))) := by
  have h4 := hT.2.2.2
  have sg : ∀ p : Nat, (nI 48 ≤ sI tp[p]? ∧ sI tp[p]? ≤ nI 57) ↔ ¬ pB tp 48 57 p = none := fun p => by rw [sI_in (h4 p) (by decide) (by decide), pB_in]
  rw [em_X12_number]
  by_cases b0 : b = 0
  · subst b0
    rw [if_pos rfl, if_pos rfl]
    unfold pN
    simp (disch := omega) only [g_X12_number_0, g_X12_number_1, g_X12_number_2, g_X12_number_4, g_X12_number_6, g_X12_number_9, g_X12_number_10, g_X12_number_11, g_X12_number_12, lk_X12_number, XI, Nat.reduceAdd, Nat.reduceEqDiff, not_false_eq_true, nI_T1, nI_T0, true_and, and_true, WC, WV, WU, r_one P n s I J R _ _ hT (show 49 ≤ 57 by decide) (show 57 ≤ 127 by decide) hp (Nat.zero_le 1), if_true, nI_addS, true_and]
    cases h1 : pB tp 49 57 p with
    | none =>
      rw [if_neg (fun z => z rfl), g_X12_number_13]
      simp (disch := omega) only [g_X12_number_14, g_X12_number_15, g_X12_number_18, g_X12_number_19, g_X12_number_22, lk_X12_number, g_X12_number_59, g_X12_number_60, lk_X12_number, XI, Nat.reduceAdd, Nat.reduceEqDiff, not_false_eq_true, nI_T1, nI_T0, true_and, and_true, WC, WV, WU, nI_leS, Nat.reduceLeDiff, if_false, WR_a13, nI_10f, not_false_eq_true, if_true]
      exact Iff.rfl
    | some a =>
      have a1 := pB_s h1
      rw [if_pos (by intro z; cases z), g_X12_number_13]
      simp (disch := omega) only [g_X12_number_14, g_X12_number_15, g_X12_number_18, g_X12_number_19, g_X12_number_22, g_X12_number_25, g_X12_number_26, g_X12_number_29, g_X12_number_31, g_X12_number_33, g_X12_number_36, lk_X12_number, XI, Nat.reduceAdd, Nat.reduceEqDiff, not_false_eq_true, nI_T1, nI_T0, true_and, and_true, WC, WV, WU, nI_leS, Nat.reduceLeDiff, if_false, WR_a13, nI_00, not_true_eq_false, r_sign P n s I J R _ _ hT (show p + 1 ≤ tp.length by omega), s_X12_in, rs_b_0, sg, Classical.not_not]
      cases h2 : pB tp 48 57 (p + 1) with
      | none =>
        simp (disch := omega) only [if_true, g_X12_number_59, g_X12_number_60, lk_X12_number, XI, Nat.reduceAdd, Nat.reduceEqDiff, not_false_eq_true, nI_T1, nI_T0, true_and, and_true, WC, WV, WU, Option.getD_some, Option.getD_none, reduceCtorEq, if_false]
        rw [show 1 + a = a + 1 by omega]
      | some b =>
        have a2 := pB_s h2
        simp (disch := omega) only [reduceCtorEq, if_false, g_X12_number_39, g_X12_number_41, g_X12_number_42, g_X12_number_43, g_X12_number_44, g_X12_number_46, g_X12_number_48, g_X12_number_51, g_X12_number_52, g_X12_number_53, g_X12_number_56, lk_X12_number, XI, Nat.reduceAdd, Nat.reduceEqDiff, not_false_eq_true, nI_T1, nI_T0, true_and, and_true, WC, WV, WU, r_one P n s I J R _ _ hT (show 48 ≤ 57 by decide) (show 57 ≤ 127 by decide) (show p + 1 ≤ tp.length by omega) (Nat.zero_le 1), h2, if_true, true_and, not_false_eq_true, nI_mulS, nI_addS, Option.getD_some]
        rw [g_X12_number_13]
        simp (disch := omega) only [g_X12_number_14, g_X12_number_15, g_X12_number_18, g_X12_number_19, g_X12_number_22, g_X12_number_25, g_X12_number_26, g_X12_number_29, g_X12_number_31, g_X12_number_33, g_X12_number_36, lk_X12_number, XI, Nat.reduceAdd, Nat.reduceEqDiff, not_false_eq_true, nI_T1, nI_T0, true_and, and_true, WC, WV, WU, nI_leS, Nat.reduceLeDiff, if_false, WR_a13, nI_00, not_true_eq_false, r_sign P n s I J R _ _ hT (show p + 1 + 1 ≤ tp.length by omega), s_X12_in, rs_b_0, sg, Classical.not_not]
        rw [show p + 1 + 1 = p + 2 from rfl]
        cases h3 : pB tp 48 57 (p + 2) with
        | none =>
          simp (disch := omega) only [if_true, g_X12_number_59, g_X12_number_60, lk_X12_number, XI, Nat.reduceAdd, Nat.reduceEqDiff, not_false_eq_true, nI_T1, nI_T0, true_and, and_true, WC, WV, WU, Option.getD_some, reduceCtorEq, if_false]
          rw [show 10 * (1 + a) + b = (a + 1) * 10 + b by omega]
        | some c =>
          have a3 := pB_s h3
          simp (disch := omega) only [reduceCtorEq, if_false, g_X12_number_39, g_X12_number_41, g_X12_number_42, g_X12_number_43, g_X12_number_44, g_X12_number_46, g_X12_number_48, g_X12_number_51, g_X12_number_52, g_X12_number_53, g_X12_number_56, lk_X12_number, XI, Nat.reduceAdd, Nat.reduceEqDiff, not_false_eq_true, nI_T1, nI_T0, true_and, and_true, WC, WV, WU, r_one P n s I J R _ _ hT (show 48 ≤ 57 by decide) (show 57 ≤ 127 by decide) (show p + 2 ≤ tp.length by omega) (Nat.zero_le 1), h3, if_true, true_and, not_false_eq_true, nI_mulS, nI_addS, Option.getD_some]
          rw [g_X12_number_13]
          simp (disch := omega) only [g_X12_number_14, g_X12_number_15, lk_X12_number, g_X12_number_59, g_X12_number_60, lk_X12_number, XI, Nat.reduceAdd, Nat.reduceEqDiff, not_false_eq_true, nI_T1, nI_T0, true_and, and_true, WC, WV, WU, nI_leS, Nat.reduceLeDiff, if_true]
          rw [show 10 * (10 * (1 + a) + b) + c = ((a + 1) * 10 + b) * 10 + c by omega]
  · have b1 : b = 1 := by omega
    subst b1
    rw [if_neg b0, if_neg b0]
    simp (disch := omega) only [g_X12_number_0, g_X12_number_1, g_X12_number_2, g_X12_number_4, g_X12_number_6, g_X12_number_9, g_X12_number_10, g_X12_number_11, g_X12_number_12, lk_X12_number, XI, Nat.reduceAdd, Nat.reduceEqDiff, not_false_eq_true, nI_T1, nI_T0, true_and, and_true, WC, WV, WU, r_one P n s I J R _ _ hT (show 49 ≤ 57 by decide) (show 57 ≤ 127 by decide) hp (Nat.le_refl 1), Nat.succ_ne_zero, false_and, if_false, nI_addS, Nat.add_zero]
    rw [g_X12_number_13]
    simp (disch := omega) only [g_X12_number_14, g_X12_number_15, g_X12_number_18, g_X12_number_19, g_X12_number_22, lk_X12_number, g_X12_number_59, g_X12_number_60, lk_X12_number, XI, Nat.reduceAdd, Nat.reduceEqDiff, not_false_eq_true, nI_T1, nI_T0, true_and, and_true, WC, WV, WU, nI_leS, Nat.reduceLeDiff, if_false, WR_a13, nI_10f, not_false_eq_true, if_true]
/-- an amount's rest: its unit -/
theorem r_amount_t (hT : TI I tp) (h8 : I 61 8 = nI 0) {p b : Nat} (hp : p ≤ tp.length) (hb : b ≤ 1) {pl : Nat} (hpl : pl + 2 < 30) {f : Nat × Nat} (hf : 1 ≤ f.1 ∧ f.1 ≤ 999 ∧ 1 ≤ f.2 ∧ f.2 ≤ 999) (z4 z5 : Option Value)
    (hg : ∀ k J', b = 0 → (pUn tp p).2 = some k → fK J J' → Q (sk_w P n s (WR (rs_u2 (rs_u2 (rs_u2 I 66 pl (nI (lw f).1)) 66 (pl + 1) (nI (lw f).2)) 66 (pl + 2) (nI k)) (pUn tp p).1 0) J' R) none)
    (hw : ∀ I' J', (b = 0 → (pUn tp p).2 = none) → fW I I' → fK J J' → Q (sk_w P n s (WR I' p 1) J' R) none) :
    rs_X (d + 3) yX12_readAmount 23 [some (.ref 61), some (.int (nI pl)), some (.int (nI f.1)), some (.int (nI f.2)), z4, z5] [] (sk_w P n s (WR I p b) J R) Q := by
  have h4 := hT.2.2.2
  have hl := lw_fr hf
  have hlF1 := hl.2.1.1
  have hlF2 := hl.2.1.2.2.1
  have eg : grt 0 f.1 f.2 = 0 := by unfold grt; rw [hl.1, if_neg (by intro z; cases z)]
  have u1 : f.1 / Nat.gcd f.1 f.2 = (lw f).1 := rfl
  have u2 : f.2 / Nat.gcd f.1 f.2 = (lw f).2 := rfl
  have w8 : WR I p b 61 8 = nI 0 := by rw [WR_ne _ _ _ (by omega) (by omega)]; exact h8
  have hfK : fK J (rs_u2 (rs_u2 J 61 6 (lN (lw f).1)) 61 7 (lN (lw f).2)) := fun q j e => by rw [rs_u2_ne _ _ (by omega), rs_u2_ne _ _ (by omega)]
  simp (disch := omega) only [g_X12_readAmount_23, g_X12_readAmount_24, g_X12_readAmount_25, g_X12_readAmount_26, g_X12_readAmount_27, g_X12_readAmount_28, g_X12_readAmount_31, g_X12_readAmount_32, g_X12_readAmount_35, g_X12_readAmount_36, g_X12_readAmount_37, g_X12_readAmount_40, g_X12_readAmount_41, g_X12_readAmount_42, g_X12_readAmount_43, g_X12_readAmount_46, g_X12_readAmount_47, g_X12_readAmount_48, g_X12_readAmount_49, g_X12_readAmount_50, g_X12_readAmount_53, g_X12_readAmount_54, lk_X12_readAmount, XI, Nat.reduceAdd, Nat.reduceEqDiff, not_false_eq_true, nI_T1, nI_T0, true_and, and_true, WC, WV, WU, nI_long (show f.1 ≤ 1000000000 by omega), nI_long (show f.2 ≤ 1000000000 by omega), s_X12_reduce _ P n s _ J R _ (Nat.zero_le 1) w8 (show f.1 < 2 ^ 63 by omega) hf.2.2.1 (show f.2 ≤ 1000000000000000000 by omega), eg, u1, u2, rs_u2_id _ w8, rs_u2_eq, rs_u2_ne, lN_i, nI_cl, rs_in_t, nI_addS, WR_o]
  generalize hI1 : rs_u2 (rs_u2 I 66 pl (nI (lw f).1)) 66 (pl + 1) (nI (lw f).2) = I1 at hg
  have f1 : fW I I1 := fun q j e => by rw [← hI1, rs_u2_ne _ _ (fun z => e z.1), rs_u2_ne _ _ (fun z => e z.1)]
  have hT1 := TI_f hT f1
  have fb : ∀ v : Int32, fW I (rs_u2 I1 66 (pl + 2) v) := fun v q j e => by rw [rs_u2_ne _ _ (fun z => e z.1)]; exact f1 q j e
  simp (disch := omega) only [g_X12_readAmount_55, g_X12_readAmount_56, g_X12_readAmount_59, g_X12_readAmount_61, g_X12_readAmount_63, g_X12_readAmount_65, lk_X12_readAmount, XI, Nat.reduceAdd, Nat.reduceEqDiff, not_false_eq_true, nI_T1, nI_T0, true_and, and_true, WC, WV, WU, r_sign P n s I1 _ R _ _ hT1 hp, sI_eq (h4 p) (show 103 ≤ 127 by decide)]
  unfold pUn at hg hw
  have tail : ∀ (k x : Nat) (z4 : Int32), x ≤ 1 → ((b = 0 ∧ x = 0) → Q (sk_w P n s (WR (rs_u2 I1 66 (pl + 2) (nI k)) (p + 1) 0) (rs_u2 (rs_u2 J 61 6 (lN (lw f).1)) 61 7 (lN (lw f).2)) R) none) → (¬ (b = 0 ∧ x = 0) → Q (sk_w P n s (WR (rs_u2 I1 66 (pl + 2) (nI k)) p 1) (rs_u2 (rs_u2 J 61 6 (lN (lw f).1)) 61 7 (lN (lw f).2)) R) none) → rs_X (d + 3) yX12_readAmount 109 [some (.ref 61), some (.int (nI pl)), some (.int (nI f.1)), some (.int (nI f.2)), some (.int z4), some (.int (nI k))] [.int (nI x), .int (nI b), .ref 61] (sk_w P n s (WR I1 p b) (rs_u2 (rs_u2 J 61 6 (lN (lw f).1)) 61 7 (lN (lw f).2)) R) Q := by
    intro k x z4 hx q0 q1
    by_cases e : b = 0 ∧ x = 0
    · obtain ⟨e1, e2⟩ := id e
      subst e1
      subst e2
      simp (disch := omega) only [g_X12_readAmount_109, g_X12_readAmount_110, g_X12_readAmount_113, g_X12_readAmount_114, g_X12_readAmount_115, g_X12_readAmount_118, g_X12_readAmount_119, g_X12_readAmount_122, g_X12_readAmount_125, g_X12_readAmount_126, g_X12_readAmount_129, g_X12_readAmount_130, g_X12_readAmount_131, g_X12_readAmount_134, g_X12_readAmount_135, g_X12_readAmount_138, g_X12_readAmount_139, g_X12_readAmount_140, g_X12_readAmount_141, g_X12_readAmount_143, g_X12_readAmount_144, lk_X12_readAmount, XI, Nat.reduceAdd, Nat.reduceEqDiff, not_false_eq_true, nI_T1, nI_T0, true_and, and_true, WC, WV, WU, nI_or0, nI_00, nI_10f, nI_11, true_or, or_true, false_or, or_false, true_and, and_true, not_true_eq_false, not_false_eq_true, if_true, if_false, WR_13, WR_a13, WR_a12, nI_addS, WR_12, nI_cl, rs_in_t, WR_o]
      exact q0 e
    · have e3 : nI b ||| nI x = nI 1 := by
        have h01 : (b = 0 ∨ b = 1) ∧ (x = 0 ∨ x = 1) := by omega
        rcases h01 with ⟨h | h, g | g⟩ <;> subst h <;> subst g <;> first | (exfalso; exact e ⟨rfl, rfl⟩) | rfl
      simp (disch := omega) only [g_X12_readAmount_109, g_X12_readAmount_110, g_X12_readAmount_113, g_X12_readAmount_114, g_X12_readAmount_115, g_X12_readAmount_118, g_X12_readAmount_119, g_X12_readAmount_122, g_X12_readAmount_125, g_X12_readAmount_126, g_X12_readAmount_129, g_X12_readAmount_130, g_X12_readAmount_131, g_X12_readAmount_134, g_X12_readAmount_135, g_X12_readAmount_138, g_X12_readAmount_139, g_X12_readAmount_140, g_X12_readAmount_141, g_X12_readAmount_143, g_X12_readAmount_144, lk_X12_readAmount, XI, Nat.reduceAdd, Nat.reduceEqDiff, not_false_eq_true, nI_T1, nI_T0, true_and, and_true, WC, WV, WU, e3, nI_00, nI_10f, nI_11, true_or, or_true, false_or, or_false, true_and, and_true, not_true_eq_false, not_false_eq_true, if_true, if_false, WR_13, WR_a13, WR_a12, nI_addS, Nat.add_zero, WR_12, nI_cl, rs_in_t, WR_o]
      exact q1 e
  by_cases c1 : tp[p]? = some 103
  · rw [if_pos c1] at hg hw
    rw [if_neg (fun z => z c1)]
    simp (disch := omega) only [g_X12_readAmount_68, g_X12_readAmount_69, g_X12_readAmount_72, g_X12_readAmount_74, g_X12_readAmount_76, g_X12_readAmount_79, g_X12_readAmount_80, g_X12_readAmount_83, g_X12_readAmount_84, g_X12_readAmount_86, g_X12_readAmount_87, g_X12_readAmount_88, g_X12_readAmount_91, g_X12_readAmount_93, g_X12_readAmount_94, g_X12_readAmount_97, g_X12_readAmount_99, g_X12_readAmount_101, g_X12_readAmount_104, g_X12_readAmount_105, g_X12_readAmount_108, lk_X12_readAmount, XI, Nat.reduceAdd, Nat.reduceEqDiff, not_false_eq_true, nI_T1, nI_T0, true_and, and_true, WC, WV, WU, WR_a13, nI_eqS, Nat.reduceEqDiff, not_false_eq_true, if_true, nI_addS]
    refine tail 0 0 _ (Nat.zero_le 1) (fun e => hg 0 _ e.1 rfl hfK) (fun e => hw _ _ (fun z => absurd ⟨z, rfl⟩ e) (fb _) hfK)
  · rw [if_neg c1] at hg hw
    rw [if_pos c1]
    simp (disch := omega) only [g_X12_readAmount_72, g_X12_readAmount_74, g_X12_readAmount_76, lk_X12_readAmount, XI, Nat.reduceAdd, Nat.reduceEqDiff, not_false_eq_true, nI_T1, nI_T0, true_and, and_true, WC, WV, WU, sI_eq (h4 p) (show 109 ≤ 127 by decide)]
    by_cases c2 : tp[p]? = some 109
    · rw [if_pos c2] at hg hw
      rw [if_neg (fun z => z c2)]
      simp (disch := omega) only [g_X12_readAmount_79, g_X12_readAmount_80, g_X12_readAmount_83, g_X12_readAmount_84, g_X12_readAmount_86, g_X12_readAmount_87, g_X12_readAmount_88, g_X12_readAmount_91, g_X12_readAmount_93, g_X12_readAmount_94, g_X12_readAmount_97, g_X12_readAmount_99, g_X12_readAmount_101, g_X12_readAmount_104, g_X12_readAmount_105, g_X12_readAmount_108, lk_X12_readAmount, XI, Nat.reduceAdd, Nat.reduceEqDiff, not_false_eq_true, nI_T1, nI_T0, true_and, and_true, WC, WV, WU, WR_a13, nI_eqS, Nat.reduceEqDiff, not_false_eq_true, if_true, nI_addS]
      refine tail 1 0 _ (Nat.zero_le 1) (fun e => hg 1 _ e.1 rfl hfK) (fun e => hw _ _ (fun z => absurd ⟨z, rfl⟩ e) (fb _) hfK)
    · rw [if_neg c2] at hg hw
      rw [if_pos c2]
      simp (disch := omega) only [g_X12_readAmount_83, g_X12_readAmount_84, g_X12_readAmount_86, g_X12_readAmount_87, g_X12_readAmount_88, g_X12_readAmount_91, g_X12_readAmount_93, g_X12_readAmount_94, g_X12_readAmount_97, g_X12_readAmount_99, g_X12_readAmount_101, lk_X12_readAmount, XI, Nat.reduceAdd, Nat.reduceEqDiff, not_false_eq_true, nI_T1, nI_T0, true_and, and_true, WC, WV, WU, WR_a13, not_true_eq_false, if_false, sI_eq (h4 p) (show 112 ≤ 127 by decide)]
      by_cases c3 : tp[p]? = some 112
      · rw [if_pos c3] at hg hw
        rw [if_pos c3]
        simp (disch := omega) only [g_X12_readAmount_108, lk_X12_readAmount, XI, Nat.reduceAdd, Nat.reduceEqDiff, not_false_eq_true, nI_T1, nI_T0, true_and, and_true, WC, WV, WU]
        refine tail 2 0 _ (Nat.zero_le 1) (fun e => hg 2 _ e.1 rfl hfK) (fun e => hw _ _ (fun z => absurd ⟨z, rfl⟩ e) (fb _) hfK)
      · rw [if_neg c3] at hg hw
        rw [if_neg c3]
        simp (disch := omega) only [g_X12_readAmount_104, g_X12_readAmount_105, lk_X12_readAmount, XI, Nat.reduceAdd, Nat.reduceEqDiff, not_false_eq_true, nI_T1, nI_T0, true_and, and_true, WC, WV, WU]
        refine tail 2 1 _ (Nat.le_refl 1) (fun e => absurd e.2 (by decide)) (fun e => hw _ _ (fun _ => rfl) (fb _) hfK)
theorem r_amount (hT : TI I tp) (h8 : I 61 8 = nI 0) {p b : Nat} (hp : p ≤ tp.length) (hb : b ≤ 1) {pl : Nat} (hpl : pl + 2 < 30)
    (hg : ∀ f k J', b = 0 → (pAm tp p).2 = some (f, k) → fK J J' → Q (sk_w P n s (WR (rs_u2 (rs_u2 (rs_u2 I 66 pl (nI (lw f).1)) 66 (pl + 1) (nI (lw f).2)) 66 (pl + 2) (nI k)) (pAm tp p).1 0) J' R) none)
    (hw : ∀ I' J', (b = 0 → (pAm tp p).2 = none) → fW I I' → fK J J' → Q (sk_w P n s (WR I' (if b = 0 then (pAm tp p).1 else p) 1) J' R) none) :
    rs_XM (d + 3) yX12_readAmount [.ref 61, .int (nI pl)] (sk_w P n s (WR I p b) J R) Q := by
  have h1 := pN_le (tp := tp) hp
  rw [em_X12_readAmount]
  simp (disch := omega) only [g_X12_readAmount_0, g_X12_readAmount_1, g_X12_readAmount_4, lk_X12_readAmount, XI, Nat.reduceAdd, Nat.reduceEqDiff, not_false_eq_true, nI_T1, nI_T0, true_and, and_true, WC, WV, WU, r_number P n s I J R _ _ hT hp hb]
  by_cases b0 : b = 0
  · subst b0
    simp only [if_true] at hw ⊢
    unfold pAm pF at hg hw
    cases e1 : (pN tp p).2 with
    | none =>
      rw [e1] at hg hw
      simp (disch := omega) only [if_true, g_X12_readAmount_5, g_X12_readAmount_6, g_X12_readAmount_8, g_X12_readAmount_11, g_X12_readAmount_14, g_X12_readAmount_15, g_X12_readAmount_18, g_X12_readAmount_21, g_X12_readAmount_22, lk_X12_readAmount, XI, Nat.reduceAdd, Nat.reduceEqDiff, not_false_eq_true, nI_T1, nI_T0, true_and, and_true, WC, WV, WU, r_takes P n s I J R _ _ hT (show 47 ≤ 127 by decide) h1.1 (Nat.le_refl 1), Nat.succ_ne_zero, false_and, if_false, rs_b_0, not_false_eq_true]
      refine r_amount_t P n s I J R d Q hT h8 h1.1 (Nat.le_refl 1) hpl (f := (1, 1)) ⟨Nat.le_refl 1, show 1 ≤ 999 by decide, Nat.le_refl 1, show 1 ≤ 999 by decide⟩ _ _ (fun k J' z => by cases z) ?_
      intro I' J' z f1 f2
      exact hw I' J' (fun _ => rfl) f1 f2
    | some u =>
      have hu := h1.2 u e1
      rw [e1] at hg hw
      dsimp only at hg hw
      simp (disch := omega) only [reduceCtorEq, if_false, g_X12_readAmount_5, g_X12_readAmount_6, g_X12_readAmount_8, g_X12_readAmount_11, lk_X12_readAmount, XI, Nat.reduceAdd, Nat.reduceEqDiff, not_false_eq_true, nI_T1, nI_T0, true_and, and_true, WC, WV, WU, r_takes P n s I J R _ _ hT (show 47 ≤ 127 by decide) h1.1 (Nat.zero_le 1), true_and, rs_b_0, Option.getD_some]
      by_cases c : tp[(pN tp p).1]? = some 47
      · rw [if_pos c] at hg hw
        have h2 := pN_le (tp := tp) (p := (pN tp p).1 + 1) (lt_of_get c)
        simp (disch := omega) only [c, not_true_eq_false, if_true, if_false, g_X12_readAmount_14, g_X12_readAmount_15, g_X12_readAmount_18, g_X12_readAmount_21, g_X12_readAmount_22, lk_X12_readAmount, XI, Nat.reduceAdd, Nat.reduceEqDiff, not_false_eq_true, nI_T1, nI_T0, true_and, and_true, WC, WV, WU, r_number P n s I J R _ _ hT (lt_of_get c) (Nat.zero_le 1)]
        cases e2 : (pN tp ((pN tp p).1 + 1)).2 with
        | none =>
          rw [e2] at hg hw
          simp only [if_true, Option.getD_none]
          refine r_amount_t P n s I J R d Q hT h8 h2.1 (Nat.le_refl 1) hpl (f := (u, 1)) ⟨hu.1, hu.2, Nat.le_refl 1, show 1 ≤ 999 by decide⟩ _ _ (fun k J' z => by cases z) ?_
          intro I' J' z f1 f2
          exact hw I' J' (fun _ => rfl) f1 f2
        | some v =>
          have hv := h2.2 v e2
          rw [e2] at hg hw
          dsimp only at hg hw
          simp only [reduceCtorEq, if_false, Option.getD_some]
          refine r_amount_t P n s I J R d Q hT h8 h2.1 (Nat.zero_le 1) hpl (f := (u, v)) ⟨hu.1, hu.2, hv.1, hv.2⟩ _ _ ?_ ?_
          · intro k J' _ e3 f2
            rw [e3] at hg
            exact hg (u, v) k J' rfl rfl f2
          · intro I' J' z f1 f2
            have e3 := z rfl
            rw [e3] at hw
            have e4 := pUn_n (tp := tp) e3
            have hw2 := hw I' J' (fun _ => rfl) f1 f2
            dsimp only at hw2
            rw [e4] at hw2
            exact hw2
      · rw [if_neg c] at hg hw
        simp (disch := omega) only [c, not_false_eq_true, if_true, if_false, g_X12_readAmount_21, g_X12_readAmount_22, lk_X12_readAmount, XI, Nat.reduceAdd, Nat.reduceEqDiff, not_false_eq_true, nI_T1, nI_T0, true_and, and_true, WC, WV, WU]
        refine r_amount_t P n s I J R d Q hT h8 h1.1 (Nat.zero_le 1) hpl (f := (u, 1)) ⟨hu.1, hu.2, Nat.le_refl 1, show 1 ≤ 999 by decide⟩ _ _ ?_ ?_
        · intro k J' _ e3 f2
          dsimp only at hg
          rw [e3] at hg
          exact hg (u, 1) k J' rfl rfl f2
        · intro I' J' z f1 f2
          have e3 := z rfl
          dsimp only at hw
          rw [e3] at hw
          have e4 := pUn_n (tp := tp) e3
          have hw2 := hw I' J' (fun _ => rfl) f1 f2
          dsimp only at hw2
          rw [e4] at hw2
          exact hw2
  · have b1 : b = 1 := by omega
    subst b1
    simp (disch := omega) only [Nat.succ_ne_zero, if_false, g_X12_readAmount_5, g_X12_readAmount_6, g_X12_readAmount_8, g_X12_readAmount_11, g_X12_readAmount_14, g_X12_readAmount_15, g_X12_readAmount_18, g_X12_readAmount_21, g_X12_readAmount_22, lk_X12_readAmount, XI, Nat.reduceAdd, Nat.reduceEqDiff, not_false_eq_true, nI_T1, nI_T0, true_and, and_true, WC, WV, WU, r_takes P n s I J R _ _ hT (show 47 ≤ 127 by decide) hp (Nat.le_refl 1), false_and, rs_b_0, not_false_eq_true, if_true]
    rw [if_neg b0] at hw
    refine r_amount_t P n s I J R d Q hT h8 hp (Nat.le_refl 1) hpl (f := (1, 1)) ⟨Nat.le_refl 1, show 1 ≤ 999 by decide, Nat.le_refl 1, show 1 ≤ 999 by decide⟩ _ _ (fun k J' z => by cases z) ?_
    intro I' J' z f1 f2
    exact hw I' J' (fun z => absurd z b0) f1 f2
end
