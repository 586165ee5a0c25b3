/-! what both sides hold: recipes, ingredients, substitutions, the plan -/
def It : Type := (Nat × Nat) × (Nat) × (Nat)
def It.am (t : It) : Nat × Nat := t.1
def It.un (t : It) : Nat := t.2.1
def It.so (t : It) : Nat := t.2.2
def It.mk (am : Nat × Nat) (un : Nat) (so : Nat) : It := (am, un, so)
theorem It.mk_am (am : Nat × Nat) (un : Nat) (so : Nat) : (It.mk am un so).am = am := rfl
theorem It.mk_un (am : Nat × Nat) (un : Nat) (so : Nat) : (It.mk am un so).un = un := rfl
theorem It.mk_so (am : Nat × Nat) (un : Nat) (so : Nat) : (It.mk am un so).so = so := rfl
def Rc : Type := (List It) × (Nat × Nat) × (Nat) × (Nat)
def Rc.its (t : Rc) : List It := t.1
def Rc.yl (t : Rc) : Nat × Nat := t.2.1
def Rc.un (t : Rc) : Nat := t.2.2.1
def Rc.pan (t : Rc) : Nat := t.2.2.2
def Rc.mk (its : List It) (yl : Nat × Nat) (un : Nat) (pan : Nat) : Rc := (its, yl, un, pan)
theorem Rc.mk_its (its : List It) (yl : Nat × Nat) (un : Nat) (pan : Nat) : (Rc.mk its yl un pan).its = its := rfl
theorem Rc.mk_yl (its : List It) (yl : Nat × Nat) (un : Nat) (pan : Nat) : (Rc.mk its yl un pan).yl = yl := rfl
theorem Rc.mk_un (its : List It) (yl : Nat × Nat) (un : Nat) (pan : Nat) : (Rc.mk its yl un pan).un = un := rfl
theorem Rc.mk_pan (its : List It) (yl : Nat × Nat) (un : Nat) (pan : Nat) : (Rc.mk its yl un pan).pan = pan := rfl
def Ig : Type := (Option (Nat × Nat)) × (Option (Nat × Nat)) × (Nat) × (Nat) × (Nat) × (List (Nat × Nat))
def Ig.de (t : Ig) : Option (Nat × Nat) := t.1
def Ig.we (t : Ig) : Option (Nat × Nat) := t.2.1
def Ig.con (t : Ig) : Nat := t.2.2.1
def Ig.tra (t : Ig) : Nat := t.2.2.2.1
def Ig.stk (t : Ig) : Nat := t.2.2.2.2.1
def Ig.pk (t : Ig) : List (Nat × Nat) := t.2.2.2.2.2
def Ig.mk (de : Option (Nat × Nat)) (we : Option (Nat × Nat)) (con : Nat) (tra : Nat) (stk : Nat) (pk : List (Nat × Nat)) : Ig := (de, we, con, tra, stk, pk)
theorem Ig.mk_de (de : Option (Nat × Nat)) (we : Option (Nat × Nat)) (con : Nat) (tra : Nat) (stk : Nat) (pk : List (Nat × Nat)) : (Ig.mk de we con tra stk pk).de = de := rfl
theorem Ig.mk_we (de : Option (Nat × Nat)) (we : Option (Nat × Nat)) (con : Nat) (tra : Nat) (stk : Nat) (pk : List (Nat × Nat)) : (Ig.mk de we con tra stk pk).we = we := rfl
theorem Ig.mk_con (de : Option (Nat × Nat)) (we : Option (Nat × Nat)) (con : Nat) (tra : Nat) (stk : Nat) (pk : List (Nat × Nat)) : (Ig.mk de we con tra stk pk).con = con := rfl
theorem Ig.mk_tra (de : Option (Nat × Nat)) (we : Option (Nat × Nat)) (con : Nat) (tra : Nat) (stk : Nat) (pk : List (Nat × Nat)) : (Ig.mk de we con tra stk pk).tra = tra := rfl
theorem Ig.mk_stk (de : Option (Nat × Nat)) (we : Option (Nat × Nat)) (con : Nat) (tra : Nat) (stk : Nat) (pk : List (Nat × Nat)) : (Ig.mk de we con tra stk pk).stk = stk := rfl
theorem Ig.mk_pk (de : Option (Nat × Nat)) (we : Option (Nat × Nat)) (con : Nat) (tra : Nat) (stk : Nat) (pk : List (Nat × Nat)) : (Ig.mk de we con tra stk pk).pk = pk := rfl
def Sb : Type := (Nat) × (Nat) × (Nat) × (Nat) × (Nat) × (Nat)
def Sb.x (t : Sb) : Nat := t.1
def Sb.y (t : Sb) : Nat := t.2.1
def Sb.up (t : Sb) : Nat := t.2.2.1
def Sb.dn (t : Sb) : Nat := t.2.2.2.1
def Sb.ki (t : Sb) : Nat := t.2.2.2.2.1
def Sb.va (t : Sb) : Nat := t.2.2.2.2.2
def Sb.mk (x : Nat) (y : Nat) (up : Nat) (dn : Nat) (ki : Nat) (va : Nat) : Sb := (x, y, up, dn, ki, va)
theorem Sb.mk_x (x : Nat) (y : Nat) (up : Nat) (dn : Nat) (ki : Nat) (va : Nat) : (Sb.mk x y up dn ki va).x = x := rfl
theorem Sb.mk_y (x : Nat) (y : Nat) (up : Nat) (dn : Nat) (ki : Nat) (va : Nat) : (Sb.mk x y up dn ki va).y = y := rfl
theorem Sb.mk_up (x : Nat) (y : Nat) (up : Nat) (dn : Nat) (ki : Nat) (va : Nat) : (Sb.mk x y up dn ki va).up = up := rfl
theorem Sb.mk_dn (x : Nat) (y : Nat) (up : Nat) (dn : Nat) (ki : Nat) (va : Nat) : (Sb.mk x y up dn ki va).dn = dn := rfl
theorem Sb.mk_ki (x : Nat) (y : Nat) (up : Nat) (dn : Nat) (ki : Nat) (va : Nat) : (Sb.mk x y up dn ki va).ki = ki := rfl
theorem Sb.mk_va (x : Nat) (y : Nat) (up : Nat) (dn : Nat) (ki : Nat) (va : Nat) : (Sb.mk x y up dn ki va).va = va := rfl
def Dt : Type := (Nat → Option Rc) × (Nat → Ig) × (List Sb) × (Option (Nat × (Nat × Nat)))
def Dt.rc (t : Dt) : Nat → Option Rc := t.1
def Dt.ig (t : Dt) : Nat → Ig := t.2.1
def Dt.sb (t : Dt) : List Sb := t.2.2.1
def Dt.pl (t : Dt) : Option (Nat × (Nat × Nat)) := t.2.2.2
def Dt.mk (rc : Nat → Option Rc) (ig : Nat → Ig) (sb : List Sb) (pl : Option (Nat × (Nat × Nat))) : Dt := (rc, ig, sb, pl)
theorem Dt.mk_rc (rc : Nat → Option Rc) (ig : Nat → Ig) (sb : List Sb) (pl : Option (Nat × (Nat × Nat))) : (Dt.mk rc ig sb pl).rc = rc := rfl
theorem Dt.mk_ig (rc : Nat → Option Rc) (ig : Nat → Ig) (sb : List Sb) (pl : Option (Nat × (Nat × Nat))) : (Dt.mk rc ig sb pl).ig = ig := rfl
theorem Dt.mk_sb (rc : Nat → Option Rc) (ig : Nat → Ig) (sb : List Sb) (pl : Option (Nat × (Nat × Nat))) : (Dt.mk rc ig sb pl).sb = sb := rfl
theorem Dt.mk_pl (rc : Nat → Option Rc) (ig : Nat → Ig) (sb : List Sb) (pl : Option (Nat × (Nat × Nat))) : (Dt.mk rc ig sb pl).pl = pl := rfl
def It.ok (t : It) : Prop := isF t.am ∧ 1 ≤ t.am.1 ∧ t.un ≤ 2 ∧ t.so < 20
def Rc.ok (R : Rc) : Prop := 1 ≤ R.its.length ∧ R.its.length ≤ 6 ∧ (∀ (k : Nat) (t : It), R.its[k]? = some t → t.ok) ∧ isF R.yl ∧ 1 ≤ R.yl.1 ∧ R.un ≤ 2 ∧ R.pan ≤ 999
def Ig.ok (g : Ig) : Prop := okO g.de ∧ okO g.we ∧ g.con ≤ 255 ∧ g.tra ≤ 255 ∧ g.stk ≤ 999999 ∧ g.pk.length ≤ 3 ∧ ∀ (k : Nat) (p : Nat × Nat), g.pk[k]? = some p → 1 ≤ p.1 ∧ p.1 ≤ 2000 ∧ p.2 ≤ 999
def Sb.ok (t : Sb) : Prop := t.x < 12 ∧ t.y < 12 ∧ ¬ t.x = t.y ∧ 1 ≤ t.up ∧ t.up ≤ 999 ∧ 1 ≤ t.dn ∧ t.dn ≤ 999 ∧ t.ki ≤ 3 ∧ t.va ≤ 999999 ∧ (t.ki = 1 → t.va ≤ 7) ∧ (t.ki = 0 ∨ t.ki = 3 → t.va = 0)
def Dt.ok (D : Dt) : Prop := (∀ r R, D.rc r = some R → r < 8 ∧ R.ok) ∧ (∀ i, i < 12 → (D.ig i).ok) ∧ D.sb.length ≤ 6 ∧ (∀ (k : Nat) (t : Sb), D.sb[k]? = some t → t.ok) ∧ ∀ r q, D.pl = some (r, q) → r < 8 ∧ isF q ∧ 1 ≤ q.1
/-! the class's objects -/
/-- a cell of the pool below a bound -/
def cP (P : Nat → Option rs_C) (b q : Nat) (c : rs_C) : Prop := q < b ∧ sk_kn q = none ∧ P q = some c
def cIt (P : Nat → Option rs_C) (b q : Nat) (t : It) : Prop := ∃ V, cP P b q (1, 3, V) ∧ V 0 = .long (pkF t.am) ∧ V 1 = .int (nI t.un) ∧ V 2 = .int (nI t.so)
def cRc (P : Nat → Option rs_C) (b q r : Nat) (R : Rc) : Prop := ∃ V i U, cP P b q (4, 5, V) ∧ cP P b i (16, 6, U) ∧ V 0 = .int (nI r) ∧ V 1 = .ref i ∧ V 2 = .long (pkF R.yl) ∧ V 3 = .int (nI R.un) ∧ V 4 = .int (nI R.pan) ∧ (∀ k, k < 6 → R.its[k]? = none → U k = .null) ∧ ∀ k t, k < 6 → R.its[k]? = some t → ∃ x, U k = .ref x ∧ cIt P b x t
def cIg (P : Nat → Option rs_C) (b q : Nat) (g : Ig) : Prop := ∃ V a c Ua Uc, cP P b q (0, 8, V) ∧ cP P b a (12, 3, Ua) ∧ cP P b c (12, 3, Uc) ∧ ¬ a = c ∧ V 0 = .long (pkO g.de) ∧ V 1 = .long (pkO g.we) ∧ V 2 = .int (nI g.con) ∧ V 3 = .int (nI g.tra) ∧ V 4 = .int (nI g.stk) ∧ V 5 = .int (nI g.pk.length) ∧ V 6 = .ref a ∧ V 7 = .ref c ∧ ∀ (k : Nat) (p : Nat × Nat), g.pk[k]? = some p → Ua k = .int (nI p.1) ∧ Uc k = .int (nI p.2)
def cSb (P : Nat → Option rs_C) (b q : Nat) (t : Sb) : Prop := ∃ V, cP P b q (7, 5, V) ∧ V 0 = .int (nI t.x) ∧ V 1 = .int (nI t.y) ∧ V 2 = .long (pkO (fr t.up t.dn)) ∧ V 3 = .int (nI t.ki) ∧ V 4 = .int (nI t.va)
def cPl (V : Nat → Value) (o : Option (Nat × (Nat × Nat))) : Prop := match o with
  | none => V 3 = .int (-1) ∧ ∃ x, V 4 = .long x
  | some p => V 3 = .int (nI p.1) ∧ V 4 = .long (pkF p.2)
def cSt (P : Nat → Option rs_C) (b q : Nat) (D : Dt) : Prop := ∃ V a c e Ua Uc Ue, cP P b q (6, 5, V) ∧ cP P b a (17, 8, Ua) ∧ cP P b c (15, 12, Uc) ∧ cP P b e (19, 6, Ue) ∧ V 0 = .ref a ∧ V 1 = .ref c ∧ V 2 = .ref e ∧ cPl V D.pl ∧ (∀ r, r < 8 → D.rc r = none → Ua r = .null) ∧ (∀ r R, r < 8 → D.rc r = some R → ∃ x, Ua r = .ref x ∧ cRc P b x r R) ∧ (∀ i, i < 12 → ∃ x, Uc i = .ref x ∧ cIg P b x (D.ig i)) ∧ (∀ k, k < 6 → D.sb[k]? = none → Ue k = .null) ∧ ∀ k t, k < 6 → D.sb[k]? = some t → ∃ x, Ue k = .ref x ∧ cSb P b x t
section
variable {P P' : Nat → Option rs_C} {b b' : Nat}
theorem cP_m (hP : ∀ i, i < b → P' i = P i) (hb : b ≤ b') {q : Nat} {c : rs_C} (h : cP P b q c) : cP P' b' q c := ⟨Nat.lt_of_lt_of_le h.1 hb, h.2.1, by rw [hP q h.1]; exact h.2.2⟩
theorem cIt_m (hP : ∀ i, i < b → P' i = P i) (hb : b ≤ b') {q : Nat} {t : It} (h : cIt P b q t) : cIt P' b' q t := by
  obtain ⟨V, h1, h2⟩ := h
  exact ⟨V, cP_m hP hb h1, h2⟩
theorem cSb_m (hP : ∀ i, i < b → P' i = P i) (hb : b ≤ b') {q : Nat} {t : Sb} (h : cSb P b q t) : cSb P' b' q t := by
  obtain ⟨V, h1, h2⟩ := h
  exact ⟨V, cP_m hP hb h1, h2⟩
theorem cIg_m (hP : ∀ i, i < b → P' i = P i) (hb : b ≤ b') {q : Nat} {t : Ig} (h : cIg P b q t) : cIg P' b' q t := by
  obtain ⟨V, a, c, Ua, Uc, h1, h2, h3, h4⟩ := h
  exact ⟨V, a, c, Ua, Uc, cP_m hP hb h1, cP_m hP hb h2, cP_m hP hb h3, h4⟩
theorem cRc_m (hP : ∀ i, i < b → P' i = P i) (hb : b ≤ b') {q r : Nat} {R : Rc} (h : cRc P b q r R) : cRc P' b' q r R := by
  obtain ⟨V, i, U, h1, h2, h3, h4, h5, h6, h7, h8, h9⟩ := h
  refine ⟨V, i, U, cP_m hP hb h1, cP_m hP hb h2, h3, h4, h5, h6, h7, h8, ?_⟩
  intro k t hk ht
  obtain ⟨x, e, hx⟩ := h9 k t hk ht
  exact ⟨x, e, cIt_m hP hb hx⟩
theorem cSt_m (hP : ∀ i, i < b → P' i = P i) (hb : b ≤ b') {q : Nat} {D : Dt} (h : cSt P b q D) : cSt P' b' q D := by
  obtain ⟨V, a, c, e, Ua, Uc, Ue, h1, h2, h3, h4, h5, h6, h7, h8, h9, h10, h11, h12, h13⟩ := h
  refine ⟨V, a, c, e, Ua, Uc, Ue, cP_m hP hb h1, cP_m hP hb h2, cP_m hP hb h3, cP_m hP hb h4, h5, h6, h7, h8, h9, ?_, ?_, h12, ?_⟩
  · intro r R hr hR
    obtain ⟨x, e, hx⟩ := h10 r R hr hR
    exact ⟨x, e, cRc_m hP hb hx⟩
  · intro i hi
    obtain ⟨x, e, hx⟩ := h11 i hi
    exact ⟨x, e, cIg_m hP hb hx⟩
  · intro k t hk ht
    obtain ⟨x, e, hx⟩ := h13 k t hk ht
    exact ⟨x, e, cSb_m hP hb hx⟩
end
/-! reading them -/
section
variable {P : Nat → Option rs_C} {b : Nat} (n s : Nat) (I : Nat → Nat → Int32) (J : Nat → Nat → Int64) (R : Nat → Nat → Option Nat)
theorem sk_cP {q : Nat} {c : rs_C} (h : cP P b q c) : (sk_w P n s I J R).1 q = some c := by rw [sk_pool h.2.1, h.2.2]
theorem g_recipeAt_n {q r : Nat} {D : Dt} (h : cSt P b q D) (hr : r < 8) (hR : D.rc r = none) (d : Nat) (Q : rs_H → Option Value → Prop) : rs_XM d yX7_recipeAt [.ref q, .int (nI r)] (sk_w P n s I J R) Q ↔ Q (sk_w P n s I J R) (some .null) := by
  obtain ⟨V, a, c, e, Ua, Uc, Ue, h1, h2, h3, h4, h5, h6, h7, h8, h9, h10, h11, h12, h13⟩ := h
  rw [em_X7_recipeAt]
  simp (disch := omega) only [K_X7_recipeAt, lk_X7_recipeAt, XI, Nat.reduceAdd, Nat.reduceEqDiff, not_false_eq_true, nI_T1, nI_T0, true_and, and_true, WC, WV, WU, sk_cP n s I J R h1, sk_cP n s I J R h2, h5, nI_lt0S, nI_leS, nI_cl, rs_in_t, h9 r hr hR, if_false]
  rw [if_neg (by omega)]
theorem g_recipeAt_s {q r : Nat} {D : Dt} (h : cSt P b q D) (hr : r < 8) {X : Rc} (hR : D.rc r = some X) : ∃ x, cRc P b x r X ∧ ∀ n s I J R (d : Nat) (Q : rs_H → Option Value → Prop), rs_XM d yX7_recipeAt [.ref q, .int (nI r)] (sk_w P n s I J R) Q ↔ Q (sk_w P n s I J R) (some (.ref x)) := by
  obtain ⟨V, a, c, e, Ua, Uc, Ue, h1, h2, h3, h4, h5, h6, h7, h8, h9, h10, h11, h12, h13⟩ := h
  obtain ⟨x, hx, hc⟩ := h10 r X hr hR
  refine ⟨x, hc, ?_⟩
  intro n s I J R d Q
  rw [em_X7_recipeAt]
  simp (disch := omega) only [K_X7_recipeAt, lk_X7_recipeAt, XI, Nat.reduceAdd, Nat.reduceEqDiff, not_false_eq_true, nI_T1, nI_T0, true_and, and_true, WC, WV, WU, sk_cP n s I J R h1, sk_cP n s I J R h2, h5, nI_lt0S, nI_leS, nI_cl, rs_in_t, hx, if_false]
  rw [if_neg (by omega)]
theorem g_ingredientAt {q i : Nat} {D : Dt} (h : cSt P b q D) (hi : i < 12) : ∃ x, cIg P b x (D.ig i) ∧ ∀ n s I J R (d : Nat) (Q : rs_H → Option Value → Prop), rs_XM d yX7_ingredientAt [.ref q, .int (nI i)] (sk_w P n s I J R) Q ↔ Q (sk_w P n s I J R) (some (.ref x)) := by
  obtain ⟨V, a, c, e, Ua, Uc, Ue, h1, h2, h3, h4, h5, h6, h7, h8, h9, h10, h11, h12, h13⟩ := h
  obtain ⟨x, hx, hc⟩ := h11 i hi
  refine ⟨x, hc, ?_⟩
  intro n s I J R d Q
  rw [em_X7_ingredientAt]
  simp (disch := omega) only [K_X7_ingredientAt, lk_X7_ingredientAt, XI, Nat.reduceAdd, Nat.reduceEqDiff, not_false_eq_true, nI_T1, nI_T0, true_and, and_true, WC, WV, WU, sk_cP n s I J R h1, sk_cP n s I J R h3, h6, nI_lt0S, nI_leS, nI_cl, rs_in_t, hx, if_false]
  rw [if_neg (by omega)]
theorem g_substitutionAt_n {q r : Nat} {D : Dt} (h : cSt P b q D) (hr : r < 6) (hR : D.sb[r]? = none) (d : Nat) (Q : rs_H → Option Value → Prop) : rs_XM d yX7_substitutionAt [.ref q, .int (nI r)] (sk_w P n s I J R) Q ↔ Q (sk_w P n s I J R) (some .null) := by
  obtain ⟨V, a, c, e, Ua, Uc, Ue, h1, h2, h3, h4, h5, h6, h7, h8, h9, h10, h11, h12, h13⟩ := h
  rw [em_X7_substitutionAt]
  simp (disch := omega) only [K_X7_substitutionAt, lk_X7_substitutionAt, XI, Nat.reduceAdd, Nat.reduceEqDiff, not_false_eq_true, nI_T1, nI_T0, true_and, and_true, WC, WV, WU, sk_cP n s I J R h1, sk_cP n s I J R h4, h7, nI_lt0S, nI_leS, nI_cl, rs_in_t, h12 r hr hR, if_false]
  rw [if_neg (by omega)]
theorem g_substitutionAt_s {q r : Nat} {D : Dt} (h : cSt P b q D) (hr : r < 6) {X : Sb} (hR : D.sb[r]? = some X) : ∃ x, cSb P b x X ∧ ∀ n s I J R (d : Nat) (Q : rs_H → Option Value → Prop), rs_XM d yX7_substitutionAt [.ref q, .int (nI r)] (sk_w P n s I J R) Q ↔ Q (sk_w P n s I J R) (some (.ref x)) := by
  obtain ⟨V, a, c, e, Ua, Uc, Ue, h1, h2, h3, h4, h5, h6, h7, h8, h9, h10, h11, h12, h13⟩ := h
  obtain ⟨x, hx, hc⟩ := h13 r X hr hR
  refine ⟨x, hc, ?_⟩
  intro n s I J R d Q
  rw [em_X7_substitutionAt]
  simp (disch := omega) only [K_X7_substitutionAt, lk_X7_substitutionAt, XI, Nat.reduceAdd, Nat.reduceEqDiff, not_false_eq_true, nI_T1, nI_T0, true_and, and_true, WC, WV, WU, sk_cP n s I J R h1, sk_cP n s I J R h4, h7, nI_lt0S, nI_leS, nI_cl, rs_in_t, hx, if_false]
  rw [if_neg (by omega)]
end
