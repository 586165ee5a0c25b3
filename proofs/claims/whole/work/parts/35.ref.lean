/-! the reference's row of ints, and what it says; one item of an ingredient -/
def mIt (f : Nat → Int32) (p : Nat) (t : It) : Prop := f p = nI t.am.1 ∧ f (p + 1) = nI t.am.2 ∧ f (p + 2) = nI t.un ∧ f (p + 3) = nI t.so
def mRc (f : Nat → Int32) (r : Nat) (o : Option Rc) : Prop := match o with
  | none => f (30 * r) = nI 0 ∧ f (30 * r + 1) = nI 0
  | some Z => f (30 * r) = nI 1 ∧ f (30 * r + 1) = nI Z.its.length ∧ f (30 * r + 2) = nI Z.yl.1 ∧ f (30 * r + 3) = nI Z.yl.2 ∧ f (30 * r + 4) = nI Z.un ∧ f (30 * r + 5) = nI Z.pan ∧ ∀ (k : Nat) (t : It), Z.its[k]? = some t → mIt f (30 * r + 6 + 4 * k) t
def mFr (f : Nat → Int32) (p : Nat) (o : Option (Nat × Nat)) : Prop := match o with
  | none => f p = nI 0 ∧ f (p + 1) = nI 0
  | some q => f p = nI q.1 ∧ f (p + 1) = nI q.2
def mIg (f : Nat → Int32) (i : Nat) (g : Ig) : Prop := mFr f (240 + 14 * i) g.de ∧ mFr f (240 + 14 * i + 2) g.we ∧ f (240 + 14 * i + 4) = nI g.con ∧ f (240 + 14 * i + 5) = nI g.tra ∧ f (240 + 14 * i + 6) = nI g.stk ∧ f (240 + 14 * i + 7) = nI g.pk.length ∧ ∀ (k : Nat) (p : Nat × Nat), g.pk[k]? = some p → f (240 + 14 * i + 8 + 2 * k) = nI p.1 ∧ f (240 + 14 * i + 8 + 2 * k + 1) = nI p.2
def mSb (f : Nat → Int32) (p : Nat) (t : Sb) : Prop := f p = nI t.x ∧ f (p + 1) = nI t.y ∧ f (p + 2) = nI t.up ∧ f (p + 3) = nI t.dn ∧ f (p + 4) = nI t.ki ∧ f (p + 5) = nI t.va
def mPl (f : Nat → Int32) (o : Option (Nat × (Nat × Nat))) : Prop := match o with
  | none => f 445 = -1
  | some p => f 445 = nI p.1 ∧ f 446 = nI p.2.1 ∧ f 447 = nI p.2.2
def mDt (f : Nat → Int32) (D : Dt) : Prop := (∀ r, r < 8 → mRc f r (D.rc r)) ∧ (∀ i, i < 12 → mIg f i (D.ig i)) ∧ f 408 = nI D.sb.length ∧ (∀ (k : Nat) (t : Sb), D.sb[k]? = some t → mSb f (409 + 6 * k) t) ∧ mPl f D.pl
/-- the reference's rows of fractions -/
def mS (J : Nat → Nat → Int64) (a b m : Nat) (S : Nat → Nat × Nat) : Prop := ∀ i, i < m → J a i = lN (S i).1 ∧ J b i = lN (S i).2
/-- where the grams of a unit lie -/
def gAt (i u : Nat) : Nat := 240 + 14 * i + (if u = 1 then 0 else 2)
theorem mIg_gr {f : Nat → Int32} {i : Nat} {g : Ig} (h : mIg f i g) {u : Nat} (hu : ¬ u = 0) : mFr f (gAt i u) (g.gr u) := by
  unfold gAt Ig.gr
  rw [if_neg hu]
  by_cases e : u = 1
  · rw [if_pos e, if_pos e]
    exact h.1
  · rw [if_neg e, if_neg e]
    exact h.2.1
theorem omul_1 {o : Option (Nat × Nat)} (h : okO o) : omul o (some (1, 1)) = o := by
  cases o with
  | none => rfl
  | some q =>
    rw [omul_s]
    show fr (q.1 * 1) (q.2 * 1) = _
    rw [Nat.mul_one, Nat.mul_one]
    exact fr_self (h q rfl)
theorem adO_c (q0 : Nat × Nat) (o : Option (Nat × Nat)) : (o.bind fun q => fr (q.1 * q0.2 + q0.1 * q.2) (q.2 * q0.2)) = adO q0 o := by
  cases o with
  | none => rfl
  | some q =>
    show fr (q.1 * q0.2 + q0.1 * q.2) (q.2 * q0.2) = fr (q0.1 * q.2 + q.1 * q0.2) (q0.2 * q.2)
    rw [Nat.add_comm, Nat.mul_comm q.2 q0.2]
theorem omul_c (o : Option (Nat × Nat)) (f : Nat × Nat) : (o.bind fun q => fr (q.1 * f.1) (q.2 * f.2)) = omul o (some f) := by
  cases o <;> rfl
section
variable (P : Nat → Option rs_C) (n s : Nat) (I : Nat → Nat → Int32) (J : Nat → Nat → Int64) (R : Nat → Nat → Option Nat) (d : Nat) (Q : rs_H → Option Value → Prop)
theorem s_gramsAt (w : rs_H) {i u : Nat} (hu : u ≤ 2) : rs_XM (d + 1) yX12_gramsAt [.int (nI i), .int (nI u)] w Q ↔ Q w (some (.int (if u = 0 then -1 else nI (gAt i u)))) := by
  rw [em_X12_gramsAt]
  unfold gAt
  simp (disch := omega) only [K_X12_gramsAt, lk_X12_gramsAt, XI, Nat.reduceAdd, Nat.reduceEqDiff, not_false_eq_true, nI_T1, nI_T0, true_and, and_true, nI_eq0S, nI_eqS, s_X12_at, nI_addS]
  by_cases h0 : u = 0
  · simp only [h0, not_true_eq_false, if_true, if_false]
  · by_cases h1 : u = 1
    · simp only [h0, h1, not_true_eq_false, not_false_eq_true, if_true, if_false, Nat.reduceEqDiff, Nat.add_zero]
    · simp only [h0, h1, not_true_eq_false, not_false_eq_true, if_true, if_false]
/-- off the number in hand nothing is changed -/
theorem MOf_t {I1 I2 I3 : Nat → Nat → Int32} {J1 J2 J3 : Nat → Nat → Int64} {o o' : Option (Nat × Nat)} (h : MOf I1 J1 I2 J2 o) (h2 : MOf I2 J2 I3 J3 o') : MOf I1 J1 I3 J3 o' :=
  ⟨h2.1, fun q j e => (h2.2.1 q j e).trans (h.2.1 q j e), fun q j e => (h2.2.2 q j e).trans (h.2.2 q j e)⟩
theorem s_timesGrams {D : Dt} (hM : mDt (I 62) D) (hD : D.ok) {i u : Nat} (hi : i < 12) (hu : u ≤ 2) {g : Nat × Nat} (hg : (D.ig i).gr u = some g) {o : Option (Nat × Nat)} (ho : MO I J o) (hQ : ∀ I' J', MOf I J I' J' (omul o (some g)) → Q (sk_w P n s I' J' R) none) : rs_XM (d + 2) yX12_timesGrams [.ref 61, .int (nI i), .int (nI u)] (sk_w P n s I J R) Q := by
  have hgF := Ig.gr_ok (hD.2.1 i hi) u
  rw [hg] at hgF
  have hgF := hgF g rfl
  have hgl : gAt i u < 448 := by unfold gAt; split <;> omega
  rw [em_X12_timesGrams]
  simp (disch := omega) only [g_X12_timesGrams_0, g_X12_timesGrams_1, g_X12_timesGrams_2, g_X12_timesGrams_5, g_X12_timesGrams_6, lk_X12_timesGrams, XI, Nat.reduceAdd, Nat.reduceEqDiff, not_false_eq_true, nI_T1, nI_T0, true_and, and_true, WC, WV, WU, s_gramsAt _ _ _ hu]
  by_cases h0 : u = 0
  · have hg1 : g = (1, 1) := by
      unfold Ig.gr at hg
      rw [if_pos h0] at hg
      exact (Option.some.inj hg).symm
    rw [if_pos h0]
    simp (disch := omega) only [g_X12_timesGrams_7, g_X12_timesGrams_10, g_X12_timesGrams_11, g_X12_timesGrams_12, g_X12_timesGrams_15, g_X12_timesGrams_16, g_X12_timesGrams_17, g_X12_timesGrams_18, g_X12_timesGrams_19, g_X12_timesGrams_22, g_X12_timesGrams_23, g_X12_timesGrams_24, g_X12_timesGrams_25, g_X12_timesGrams_26, g_X12_timesGrams_27, g_X12_timesGrams_30, lk_X12_timesGrams, XI, Nat.reduceAdd, Nat.reduceEqDiff, not_false_eq_true, nI_T1, nI_T0, true_and, and_true, WC, WV, WU, show ((-1 : Int32) < 0) ↔ True from ⟨fun _ => trivial, fun _ => by decide⟩, if_true]
    have hok : okO o := by
      intro q e
      subst e
      exact ho.1
    refine hQ I J ?_
    rw [hg1, omul_1 hok]
    exact ⟨ho, fun _ _ _ => rfl, fun _ _ _ => rfl⟩
  · have hf := mIg_gr (hM.2.1 i hi) h0
    rw [hg] at hf
    have hf1 : I 62 (gAt i u) = nI g.1 := hf.1
    have hf2 : I 62 (gAt i u + 1) = nI g.2 := hf.2
    have hgs : gAt i u + 1 < 448 := by unfold gAt; split <;> omega
    rw [if_neg h0]
    simp (disch := omega) only [g_X12_timesGrams_7, g_X12_timesGrams_10, g_X12_timesGrams_11, g_X12_timesGrams_12, g_X12_timesGrams_15, g_X12_timesGrams_16, g_X12_timesGrams_17, g_X12_timesGrams_18, g_X12_timesGrams_19, g_X12_timesGrams_22, g_X12_timesGrams_23, g_X12_timesGrams_24, g_X12_timesGrams_25, g_X12_timesGrams_26, g_X12_timesGrams_27, g_X12_timesGrams_30, lk_X12_timesGrams, XI, Nat.reduceAdd, Nat.reduceEqDiff, not_false_eq_true, nI_T1, nI_T0, true_and, and_true, WC, WV, WU, nI_lt0S, if_false, nI_addS, nI_cl, rs_in_t, hf1, hf2, nI_long hgF.1, nI_long hgF.2.2.1]
    refine s_X12_times d P n s I J R _ ho hgF.1 hgF.2.1 hgF.2.2.1 ?_
    intro I' J' h
    simp (disch := omega) only [g_X12_timesGrams_30, lk_X12_timesGrams, XI, Nat.reduceAdd, Nat.reduceEqDiff, not_false_eq_true, nI_T1, nI_T0, true_and, and_true, WC, WV, WU]
    rw [omul_c] at h
    exact hQ I' J' h
end
