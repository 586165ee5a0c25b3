/-! a state under way is changed -/
section
variable {P : Nat → Option rs_C} {b : Nat}
theorem cP_k {a : Nat} {w : rs_C} (ha : P a = some w) (v : Option rs_C) {q : Nat} {c : rs_C} (hk : ¬ c.1 = w.1) (h : cP P b q c) : cP (va_up P a v) b q c := by
  refine ⟨h.1, h.2.1, ?_⟩
  rw [vu_ne]
  · exact h.2.2
  · intro e
    have h3 := h.2.2
    rw [e, ha] at h3
    cases h3
    exact hk rfl
theorem cIt_k {a : Nat} {w : rs_C} (ha : P a = some w) (v : Option rs_C) (hk : 17 ≤ w.1 ∨ w.1 = 15 ∨ w.1 = 6) {q : Nat} {t : It} (h : cIt P b q t) : cIt (va_up P a v) b q t := by
  obtain ⟨V, h1, h2⟩ := h
  exact ⟨V, cP_k ha v (show ¬ 1 = w.1 by omega) h1, h2⟩
theorem cSb_k {a : Nat} {w : rs_C} (ha : P a = some w) (v : Option rs_C) (hk : 17 ≤ w.1 ∨ w.1 = 15 ∨ w.1 = 6) {q : Nat} {t : Sb} (h : cSb P b q t) : cSb (va_up P a v) b q t := by
  obtain ⟨V, h1, h2⟩ := h
  exact ⟨V, cP_k ha v (show ¬ 7 = w.1 by omega) h1, h2⟩
theorem cIg_k {a : Nat} {w : rs_C} (ha : P a = some w) (v : Option rs_C) (hk : 17 ≤ w.1 ∨ w.1 = 15 ∨ w.1 = 6) {q : Nat} {t : Ig} (h : cIg P b q t) : cIg (va_up P a v) b q t := by
  obtain ⟨V, x, y, Ua, Uc, h1, h2, h3, h4⟩ := h
  exact ⟨V, x, y, Ua, Uc, cP_k ha v (show ¬ 0 = w.1 by omega) h1, cP_k ha v (show ¬ 12 = w.1 by omega) h2, cP_k ha v (show ¬ 12 = w.1 by omega) h3, h4⟩
theorem cRc_k {a : Nat} {w : rs_C} (ha : P a = some w) (v : Option rs_C) (hk : 17 ≤ w.1 ∨ w.1 = 15 ∨ w.1 = 6) {q r : Nat} {Z : Rc} (h : cRc P b q r Z) : cRc (va_up P a v) b q r Z := by
  obtain ⟨V, i, U, h1, h2, h3, h4, h5, h6, h7, h8, h9⟩ := h
  refine ⟨V, i, U, cP_k ha v (show ¬ 4 = w.1 by omega) h1, cP_k ha v (show ¬ 16 = w.1 by omega) h2, h3, h4, h5, h6, h7, h8, ?_⟩
  intro k t hk2 ht
  obtain ⟨x, e, hx⟩ := h9 k t hk2 ht
  exact ⟨x, e, cIt_k ha v hk hx⟩
end
def Dt.setR (D : Dt) (r : Nat) (o : Option Rc) : Dt := Dt.mk (fun j => if j = r then o else D.rc j) D.ig D.sb D.pl
def Dt.setI (D : Dt) (i : Nat) (g : Ig) : Dt := Dt.mk D.rc (fun j => if j = i then g else D.ig j) D.sb D.pl
def Dt.setS (D : Dt) (l : List Sb) : Dt := Dt.mk D.rc D.ig l D.pl
def Dt.setP (D : Dt) (o : Option (Nat × (Nat × Nat))) : Dt := Dt.mk D.rc D.ig D.sb o
theorem Dt.setR_rc (D : Dt) (r : Nat) (o : Option Rc) (j : Nat) : (D.setR r o).rc j = if j = r then o else D.rc j := rfl
theorem Dt.setI_ig (D : Dt) (i : Nat) (g : Ig) (j : Nat) : (D.setI i g).ig j = if j = i then g else D.ig j := rfl
theorem Dt.setI_ok {D : Dt} (hD : D.ok) {i : Nat} {g : Ig} (hg : g.ok) : (D.setI i g).ok := by
  refine ⟨hD.1, ?_, hD.2.2⟩
  intro j hj
  rw [Dt.setI_ig]
  split
  · exact hg
  · exact hD.2.1 j hj
theorem Dt.setR_ok {D : Dt} (hD : D.ok) {r : Nat} {o : Option Rc} (ho : ∀ Z, o = some Z → r < 8 ∧ Z.ok) : (D.setR r o).ok := by
  refine ⟨?_, hD.2⟩
  intro j Z h
  rw [Dt.setR_rc] at h
  split at h
  · rename_i e
    subst e
    exact ho Z h
  · exact hD.1 j Z h
theorem Dt.setS_ok {D : Dt} (hD : D.ok) {l : List Sb} (h1 : l.length ≤ 6) (h2 : ∀ (k : Nat) (t : Sb), l[k]? = some t → t.ok) : (D.setS l).ok := ⟨hD.1, hD.2.1, h1, h2, hD.2.2.2.2⟩
theorem Dt.setP_ok {D : Dt} (hD : D.ok) {o : Option (Nat × (Nat × Nat))} (h : ∀ r q, o = some (r, q) → r < 8 ∧ isF q ∧ 1 ≤ q.1) : (D.setP o).ok := ⟨hD.1, hD.2.1, hD.2.2.1, hD.2.2.2.1, h⟩
section
variable {P : Nat → Option rs_C} (n s : Nat) (I : Nat → Nat → Int32) (J : Nat → Nat → Int64) (R : Nat → Nat → Option Nat) (d : Nat) (Q : rs_H → Option Value → Prop)
theorem k_oSt {q a c e : Nat} {V Ua Uc Ue : Nat → Value} {D : Dt} (h : oSt P n q a c e V Ua Uc Ue D) : rs_isK ((sk_w P n s I J R).1 q) 6 ↔ True := k_St P n s I J R (cSt_o.mpr ⟨_, _, _, _, _, _, _, h⟩)
theorem o_ne {b q a : Nat} {c e : rs_C} (h1 : cP P b q c) (h2 : cP P b a e) (h : ¬ c.1 = e.1) : ¬ q = a := by
  intro z
  have h3 := h1.2.2
  rw [z, h2.2.2] at h3
  cases h3
  exact h rfl
theorem p_ingredient {q a c e : Nat} {V Ua Uc Ue : Nat → Value} {D : Dt} (h : oSt P n q a c e V Ua Uc Ue D) (h0 : ¬ c = 0) {i : Nat} (hi : i < 12) {x : Nat} {g : Ig} (hx : cIg P n x g) (hQ : oSt (va_up P c (some (15, 12, va_up Uc i (.ref x)))) n q a c e V Ua (va_up Uc i (.ref x)) Ue (D.setI i g) → Q (sk_w (va_up P c (some (15, 12, va_up Uc i (.ref x)))) n s I J R) none) : rs_XM d yX7_putIngredient [.ref q, .int (nI i), .ref x] (sk_w P n s I J R) Q := by
  obtain ⟨h1, h2, h3, h4, v0, v1, v2, h5, h6, h7, h8, h9, h10⟩ := h
  obtain ⟨Vx, _, _, _, _, ⟨z1, z2, z3⟩, _⟩ := id hx
  have hk : 17 ≤ ((15, 12, Uc) : rs_C).1 ∨ ((15, 12, Uc) : rs_C).1 = 15 ∨ ((15, 12, Uc) : rs_C).1 = 6 := Or.inr (Or.inl rfl)
  have hp := r_putIngredient (P := P) n s I J R d Q h1.2.1 h1.2.2 v1 h3.2.1 h3.2.2 h0 hi (o := some x) (fun y hy => by cases hy; exact ⟨z2, _, z3, rfl⟩)
  refine hp.mpr (hQ ⟨cP_k h3.2.2 _ (show ¬ 6 = 15 by decide) h1, cP_k h3.2.2 _ (show ¬ 17 = 15 by decide) h2, ⟨h3.1, h3.2.1, vu_eq _ _ _⟩, cP_k h3.2.2 _ (show ¬ 19 = 15 by decide) h4, v0, v1, v2, h5, h6, ?_, ?_, h9, ?_⟩)
  · intro r Z hr hz
    obtain ⟨y, hy, cy⟩ := h7 r Z hr hz
    exact ⟨y, hy, cRc_k h3.2.2 _ hk cy⟩
  · intro j hj
    rw [Dt.setI_ig]
    by_cases e2 : j = i
    · rw [if_pos e2, e2, vu_eq]
      exact ⟨x, rfl, cIg_k h3.2.2 _ hk hx⟩
    · rw [if_neg e2, vu_ne _ _ e2]
      obtain ⟨y, hy, cy⟩ := h8 j hj
      exact ⟨y, hy, cIg_k h3.2.2 _ hk cy⟩
  · intro k t hk2 ht
    obtain ⟨y, hy, cy⟩ := h10 k t hk2 ht
    exact ⟨y, hy, cSb_k h3.2.2 _ hk cy⟩
theorem p_recipe {q a c e : Nat} {V Ua Uc Ue : Nat → Value} {D : Dt} (h : oSt P n q a c e V Ua Uc Ue D) (h0 : ¬ a = 0) {i : Nat} (hi : i < 8) (o : Option Nat) (Z : Option Rc) (hn : Z = none → o = none) (hs : ∀ X, Z = some X → ∃ x, o = some x ∧ cRc P n x i X) (hQ : oSt (va_up P a (some (17, 8, va_up Ua i (va_rf o)))) n q a c e V (va_up Ua i (va_rf o)) Uc Ue (D.setR i Z) → Q (sk_w (va_up P a (some (17, 8, va_up Ua i (va_rf o)))) n s I J R) none) : rs_XM d yX7_putRecipe [.ref q, .int (nI i), va_rf o] (sk_w P n s I J R) Q := by
  obtain ⟨h1, h2, h3, h4, v0, v1, v2, h5, h6, h7, h8, h9, h10⟩ := h
  have hk : 17 ≤ ((17, 8, Ua) : rs_C).1 ∨ ((17, 8, Ua) : rs_C).1 = 15 ∨ ((17, 8, Ua) : rs_C).1 = 6 := Or.inl (Nat.le_refl 17)
  have hp := r_putRecipe (P := P) n s I J R d Q h1.2.1 h1.2.2 v0 h2.2.1 h2.2.2 h0 hi (o := o) (fun y hy => by
    cases hz : Z with
    | none => rw [hn hz] at hy; cases hy
    | some X =>
      obtain ⟨x, hx, Vx, _, _, ⟨z1, z2, z3⟩, _⟩ := hs X hz
      rw [hx] at hy
      cases hy
      exact ⟨z2, _, z3, rfl⟩)
  refine hp.mpr (hQ ⟨cP_k h2.2.2 _ (show ¬ 6 = 17 by decide) h1, ⟨h2.1, h2.2.1, vu_eq _ _ _⟩, cP_k h2.2.2 _ (show ¬ 15 = 17 by decide) h3, cP_k h2.2.2 _ (show ¬ 19 = 17 by decide) h4, v0, v1, v2, h5, ?_, ?_, ?_, h9, ?_⟩)
  · intro r hr hz
    rw [Dt.setR_rc] at hz
    by_cases e2 : r = i
    · rw [if_pos e2] at hz
      rw [e2, vu_eq, hn hz]
      rfl
    · rw [if_neg e2] at hz
      rw [vu_ne _ _ e2]
      exact h6 r hr hz
  · intro r X hr hz
    rw [Dt.setR_rc] at hz
    by_cases e2 : r = i
    · rw [if_pos e2] at hz
      obtain ⟨x, hx, cx⟩ := hs X hz
      rw [e2, vu_eq, hx]
      exact ⟨x, rfl, cRc_k h2.2.2 _ hk cx⟩
    · rw [if_neg e2] at hz
      rw [vu_ne _ _ e2]
      obtain ⟨y, hy, cy⟩ := h7 r X hr hz
      exact ⟨y, hy, cRc_k h2.2.2 _ hk cy⟩
  · intro j hj
    obtain ⟨y, hy, cy⟩ := h8 j hj
    exact ⟨y, hy, cIg_k h2.2.2 _ hk cy⟩
  · intro k t hk2 ht
    obtain ⟨y, hy, cy⟩ := h10 k t hk2 ht
    exact ⟨y, hy, cSb_k h2.2.2 _ hk cy⟩
end
/-! a changed state is committed -/
def nxL (L : List Dt) (D : Dt) : List Dt := (if L.length = 8 then L.drop 1 else L) ++ [D]
theorem nxL_len {L : List Dt} (D : Dt) (h : L.length ≤ 8) : (nxL L D).length = (if L.length = 8 then 7 else L.length) + 1 := by
  unfold nxL
  rw [List.length_append, List.length_singleton]
  split
  · rename_i e
    rw [List.length_drop, e]
  · rfl
theorem nxL_get {L : List Dt} {D : Dt} (h : L.length ≤ 8) {k : Nat} {X : Dt} (hx : (nxL L D)[k]? = some X) : (k = (if L.length = 8 then 7 else L.length) ∧ X = D) ∨ (k < (if L.length = 8 then 7 else L.length) ∧ L[(if L.length = 8 then k + 1 else k)]? = some X) := by
  unfold nxL at hx
  by_cases e : L.length = 8
  · rw [if_pos e] at hx
    rw [if_pos e, if_pos e]
    by_cases e2 : k < 7
    · rw [List.getElem?_append_left (by rw [List.length_drop]; omega), List.getElem?_drop, Nat.add_comm] at hx
      exact Or.inr ⟨e2, hx⟩
    · rw [List.getElem?_append_right (by rw [List.length_drop]; omega), List.length_drop, e] at hx
      by_cases e3 : k = 7
      · subst e3
        cases hx
        exact Or.inl ⟨rfl, rfl⟩
      · rw [List.getElem?_eq_none (by rw [List.length_singleton]; omega)] at hx
        cases hx
  · rw [if_neg e] at hx
    rw [if_neg e, if_neg e]
    by_cases e2 : k < L.length
    · rw [List.getElem?_append_left e2] at hx
      exact Or.inr ⟨e2, hx⟩
    · rw [List.getElem?_append_right (by omega)] at hx
      by_cases e3 : k = L.length
      · subst e3
        rw [Nat.sub_self] at hx
        cases hx
        exact Or.inl ⟨rfl, rfl⟩
      · rw [List.getElem?_eq_none (by rw [List.length_singleton]; omega)] at hx
        cases hx
theorem nxL_ok {D : Dt} {Ds : Option Dt} {L : List Dt} {tp : List Nat} (hS : SOk D Ds L tp) {D' : Dt} (hD : D'.ok) : SOk D' Ds (nxL L D) tp := by
  obtain ⟨h1, h2, h3, h4, h5⟩ := hS
  refine ⟨hD, h2, ?_, ?_, h5⟩
  · rw [nxL_len D h3]
    split <;> omega
  · intro k X hx
    rcases nxL_get h3 hx with ⟨_, e⟩ | ⟨_, e⟩
    · rw [e]; exact h1
    · exact h4 _ X e
theorem kn_6 : ∀ (y : Nat) (q : Nat × Nat), sk_kn y = some q → ¬ q.1 = 6 := by
  intro y q e
  unfold sk_kn at e
  split at e <;> first | (cases e; decide) | cases e
section
variable {P : Nat → Option rs_C} (n s : Nat) (I : Nat → Nat → Int32) (J : Nat → Nat → Int64) (R : Nat → Nat → Option Nat) (d : Nat) (Q : rs_H → Option Value → Prop)
theorem X11_commit_l (kS : ∀ k, k < 8 → ∀ x, R 42 k = some x → ∃ c, (sk_w P n s I J R).1 x = some c ∧ c.1 = 6) (x : Nat) : ∀ (m k : Nat), 1 ≤ k → k + m = 8 → rs_X d yX11_commit 40 [some (.ref 1), some (.ref x), some (.int (nI 8))] [] (sk_w P n s I J (cpU R 42 0 7 fun j => R 42 (j + 1))) Q →
    rs_X d yX11_commit 11 [some (.ref 1), some (.ref x), some (.int (nI k))] [] (sk_w P n s I J (cpU R 42 0 (k - 1) fun j => R 42 (j + 1))) Q := by
  intro m
  induction m with
  | zero =>
    intro k hk1 hk h
    have : k = 8 := by omega
    subst this
    rw [g_X11_commit_11]
    simp (disch := omega) only [g_X11_commit_12, g_X11_commit_13, g_X11_commit_16, g_X11_commit_17, g_X11_commit_20, g_X11_commit_21, g_X11_commit_24, g_X11_commit_25, g_X11_commit_26, g_X11_commit_27, g_X11_commit_28, g_X11_commit_31, g_X11_commit_32, g_X11_commit_33, g_X11_commit_34, g_X11_commit_37, lk_X11_commit, XI, Nat.reduceAdd, Nat.reduceEqDiff, not_false_eq_true, nI_T1, nI_T0, true_and, and_true, WC, WV, WU, nI_leS, Nat.le_refl, if_true]
    exact h
  | succ m ih =>
    intro k hk1 hk h
    have hv : cpU R 42 0 (k - 1) (fun j => R 42 (j + 1)) 42 k = R 42 k := cpU_out _ _ _ _ _ (by omega)
    have hoa : rs_oa (sk_w P n s I J (cpU R 42 0 (k - 1) fun j => R 42 (j + 1))) 18 (va_rf (R 42 k)) := oa_rf (fun y hy => by
      obtain ⟨c, h1, h2⟩ := kS k (by omega) y hy
      refine ⟨c, ?_, h2⟩
      by_cases hz : sk_kn y = none
      · rw [sk_pool hz] at h1 ⊢
        exact h1
      · exfalso
        cases hq : sk_kn y with
        | none => exact hz hq
        | some q =>
          rw [sk_cell (k := q.1) (m := q.2) hq] at h1
          cases h1
          exact kn_6 y q hq h2)
    rw [g_X11_commit_11]
    simp (disch := omega) only [g_X11_commit_12, g_X11_commit_13, g_X11_commit_16, g_X11_commit_17, g_X11_commit_20, g_X11_commit_21, g_X11_commit_24, g_X11_commit_25, g_X11_commit_26, g_X11_commit_27, g_X11_commit_28, g_X11_commit_31, g_X11_commit_32, g_X11_commit_33, g_X11_commit_34, g_X11_commit_37, lk_X11_commit, XI, Nat.reduceAdd, Nat.reduceEqDiff, not_false_eq_true, nI_T1, nI_T0, true_and, and_true, WC, WV, WU, nI_leS, nI_subS, nI_cl, rs_in_t, hv, hoa, nI_addS]
    rw [if_neg (by omega), cpU_s R 42 0 (k - 1) (fun j => R 42 (j + 1)) (Nat.zero_le _) (by rw [show k - 1 + 1 = k by omega]), show k - 1 + 1 = k + 1 - 1 by omega]
    exact ih (k + 1) (by omega) (by omega) h
theorem s_commit {P0 : Nat → Option rs_C} {n0 x : Nat} {D D' : Dt} {Ds : Option Dt} {L : List Dt} {tp : List Nat} {rea : Int32} (hS : SOk D Ds L tp) (h : CI P0 n0 I R D Ds L tp rea) (hP : ∀ i, i < n0 → P i = P0 i) (hn : n0 ≤ n) (hx : cSt P n x D') (hQ : ∀ I' R', CI P n I' R' D' Ds (nxL L D) tp rea → fC I I' → Q (sk_w P n s I' J R') none) : rs_XM d yX11_commit [.ref 1, .ref x] (sk_w P n s I J R) Q := by
  obtain ⟨c1, ⟨q, hq1, hq2⟩, c3, c4, c5, c6, c7, c8⟩ := h
  have hq3 := cSt_m hP hn hq2
  have c5' : ∀ (k : Nat) (X : Dt), L[k]? = some X → ∃ q, R 42 k = some q ∧ cSt P n q X := by
    intro k X hk
    obtain ⟨y, hy, cy⟩ := c5 k X hk
    exact ⟨y, hy, cSt_m hP hn cy⟩
  have c3' : cSnap P n (R 1 1) Ds := by
    unfold cSnap at c3 ⊢
    cases Ds with
    | none => exact c3
    | some X =>
      obtain ⟨y, hy, cy⟩ := c3
      exact ⟨y, hy, cSt_m hP hn cy⟩
  have hL := hS.2.2.1
  have kq := k_St P n s I J R hq3
  have fin : ∀ (I' : Nat → Nat → Int32) (R' : Nat → Nat → Option Nat) (c : Nat), c = (if L.length = 8 then 7 else L.length) → fC I I' → (∀ j, ¬ j = 3 → I' 1 j = I 1 j) → (∀ a j, ¬ a = 1 → I' a j = I a j) → I' 1 3 = nI c → (∀ j, j < c → R' 42 j = R 42 (if L.length = 8 then j + 1 else j)) → R' 1 0 = R 1 0 → R' 1 1 = R 1 1 → ∀ z2, rs_X d yX11_commit 46 [some (.ref 1), some (.ref x), z2] [] (sk_w P n s I' J R') Q := by
    intro I' R' c hc fI' i1 i2 i3 r1 r2 r3 z2
    have hc8 : c < 8 := by rw [hc]; split <;> omega
    have hoa : ∀ R2, R2 1 0 = some q → rs_oa (sk_w P n s I' J R2) 18 (.ref q) := fun R2 _ => oa_rf (o := some q) (fun y hy => by
      cases hy
      obtain ⟨V, _, _, _, _, _, _, ⟨b1, b2, b3⟩, _⟩ := hq3
      exact ⟨_, by rw [sk_pool b2, b3], rfl⟩)
    have hR0 : R' 1 0 = some q := by rw [r2]; exact hq1
    simp (disch := omega) only [g_X11_commit_46, g_X11_commit_47, g_X11_commit_50, g_X11_commit_53, g_X11_commit_54, g_X11_commit_57, g_X11_commit_58, g_X11_commit_61, g_X11_commit_62, g_X11_commit_65, g_X11_commit_66, g_X11_commit_69, g_X11_commit_70, g_X11_commit_73, g_X11_commit_74, g_X11_commit_77, g_X11_commit_78, g_X11_commit_79, g_X11_commit_80, g_X11_commit_83, g_X11_commit_84, g_X11_commit_85, g_X11_commit_88, g_X11_commit_89, g_X11_commit_90, g_X11_commit_93, lk_X11_commit, XI, Nat.reduceAdd, Nat.reduceEqDiff, not_false_eq_true, nI_T1, nI_T0, true_and, and_true, WC, WV, WU, rs_b_0, rs_b_ok2, true_or, or_true, Classical.not_not, not_true_eq_false, if_true, if_false, reduceCtorEq, i3, nI_lt0S, nI_leS, nI_cl, rs_in_t, hR0, va_rf, hoa R' hR0, nI_addS]
    rw [if_neg (by omega)]
    refine hQ _ _ ⟨by omega, ⟨x, rs_u2_eq _ _ _ _, hx⟩, ?_, ?_, ?_, ?_, ?_, ?_⟩ (fC_u fI' (by decide))
    · rw [rs_u2_ne _ _ (by omega), rs_u2_ne _ _ (by omega), r3]
      exact c3'
    · rw [rs_u2_eq, nxL_len D hL, hc]
    · intro k X hk
      rw [rs_u2_ne _ _ (by omega)]
      rcases nxL_get hL hk with ⟨e1, e2⟩ | ⟨e1, e2⟩
      · rw [← hc] at e1
        rw [e1, rs_u2_eq, e2]
        exact ⟨q, rfl, hq3⟩
      · rw [← hc] at e1
        rw [rs_u2_ne _ _ (by omega), r1 k e1]
        exact c5' _ X e2
    · rw [rs_u2_ne _ _ (by omega), i1 4 (by decide)]
      exact c6
    · rw [rs_u2_ne _ _ (by omega), i2 43 1 (by decide)]
      exact c7
    · intro k v hk
      rw [rs_u2_ne _ _ (by omega), i2 44 k (by decide)]
      exact c8 k v hk
  rw [em_X11_commit]
  by_cases e8 : L.length = 8
  · have kS : ∀ k, k < 8 → ∀ y, R 42 k = some y → ∃ c, (sk_w P n s I J R).1 y = some c ∧ c.1 = 6 := by
      intro k hk y hy
      obtain ⟨z, hz, V, _, _, _, _, _, _, ⟨b1, b2, b3⟩, _⟩ := c5' k L[k] (List.getElem?_eq_getElem (by omega))
      rw [hz] at hy
      cases hy
      exact ⟨_, by rw [sk_pool b2, b3], rfl⟩
    simp (disch := omega) only [g_X11_commit_0, g_X11_commit_1, g_X11_commit_4, g_X11_commit_6, g_X11_commit_9, g_X11_commit_10, lk_X11_commit, XI, Nat.reduceAdd, Nat.reduceEqDiff, not_false_eq_true, nI_T1, nI_T0, true_and, and_true, WC, WV, WU, c4, e8, nI_ltS, Nat.lt_irrefl, if_false]
    have e2 := cpU_0 R 42 0 fun j => R 42 (j + 1)
    have hl := X11_commit_l n s I J R d Q kS x 7 1 (Nat.le_refl 1) rfl
    rw [show 1 - 1 = 0 from rfl, e2] at hl
    refine hl ?_
    simp (disch := omega) only [g_X11_commit_40, g_X11_commit_41, g_X11_commit_43, lk_X11_commit, XI, Nat.reduceAdd, Nat.reduceEqDiff, not_false_eq_true, nI_T1, nI_T0, true_and, and_true, WC, WV, WU]
    exact fin _ _ 7 (by rw [if_pos e8]) (fC_u (fC_r I) (by decide)) (fun j hj => rs_u2_ne _ _ (fun z => hj z.2)) (fun a j ha => rs_u2_ne _ _ (fun z => ha z.1)) (rs_u2_eq _ _ _ _) (fun j hj => by rw [if_pos e8]; exact cpU_in _ _ _ _ _ (Nat.zero_le j) hj) (cpU_ne _ _ _ _ _ _ (by decide)) (cpU_ne _ _ _ _ _ _ (by decide)) _
  · simp (disch := omega) only [g_X11_commit_0, g_X11_commit_1, g_X11_commit_4, g_X11_commit_6, lk_X11_commit, XI, Nat.reduceAdd, Nat.reduceEqDiff, not_false_eq_true, nI_T1, nI_T0, true_and, and_true, WC, WV, WU, c4, nI_ltS]
    rw [if_pos (by omega)]
    exact fin I R L.length (by rw [if_neg e8]) (fC_r I) (fun _ _ => rfl) (fun _ _ _ => rfl) c4 (fun j hj => by rw [if_neg e8]) rfl rfl _
end
