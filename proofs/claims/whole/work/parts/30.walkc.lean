/-! what a recipe needs: the walk, and the class's walk -/
def upS (S : Nat → Nat × Nat) (i : Nat) (q : Nat × Nat) : Nat → Nat × Nat := fun j => if j = i then q else S j
def jS (J : Nat → Nat → Int64) (a m : Nat) (S : Nat → Nat × Nat) : Nat → Nat → Int64 := cpU J a 0 m fun i => pkF (S i)
theorem jS_at (J : Nat → Nat → Int64) (a m : Nat) (S : Nat → Nat × Nat) {i : Nat} (h : i < m) : jS J a m S a i = pkF (S i) := cpU_in _ _ _ _ _ (Nat.zero_le i) h
theorem jS_u (J : Nat → Nat → Int64) (a m : Nat) (S : Nat → Nat × Nat) {i : Nat} (h : i < m) (q : Nat × Nat) : rs_u2 (jS J a m S) a i (pkF q) = jS J a m (upS S i q) := by
  funext x j
  unfold jS cpU rs_u2 upS
  dsimp only
  by_cases h1 : x = a
  · rw [if_pos h1]
    by_cases h2 : j = i
    · rw [if_pos h2, if_pos (by omega), if_pos h2]
    · rw [if_neg h2, if_neg h2]
  · rw [if_neg h1, if_neg (fun z => h1 z.1), if_neg (fun z => h1 z.1)]
/-- an item of an ingredient -/
def adI (D : Dt) (t : It) (f : Nat × Nat) (S : Nat → Nat × Nat) : Nat × (Nat → Nat × Nat) := match (D.ig t.so).gr t.un with
  | none => (4, S)
  | some g => match adO (S t.so) (omul (omul (some t.am) (some f)) (some g)) with
    | none => (5, S)
    | some q => (0, upS S t.so q)
/-- an item, once it is counted -/
def wkA (D : Dt) (inner : Nat → Rc → Nat × Nat → ((Nat → Nat × Nat) × Nat) → Nat × ((Nat → Nat × Nat) × Nat)) (op : Nat) (f : Nat × Nat) (t : It) (z : ((Nat → Nat × Nat) × Nat)) : Nat × ((Nat → Nat × Nat) × Nat) := match D.rc (t.so - 12) with
  | none => (1, z)
  | some Z => if op.testBit (t.so - 12) = true then (2, z) else if ¬ Z.un = t.un then (3, z) else match fOf t f Z with
    | none => (5, z)
    | some f2 => inner (t.so - 12) Z f2 z
def wkB (D : Dt) (inner : Nat → Rc → Nat × Nat → ((Nat → Nat × Nat) × Nat) → Nat × ((Nat → Nat × Nat) × Nat)) (op : Nat) (f : Nat × Nat) (t : It) (z : ((Nat → Nat × Nat) × Nat)) : Nat × ((Nat → Nat × Nat) × Nat) := if 12 ≤ t.so then wkA D inner op f t z else ((adI D t f z.1).1, ((adI D t f z.1).2, z.2))
def wkL (D : Dt) (inner : Nat → Rc → Nat × Nat → ((Nat → Nat × Nat) × Nat) → Nat × ((Nat → Nat × Nat) × Nat)) (op : Nat) (f : Nat × Nat) : List It → ((Nat → Nat × Nat) × Nat) → Nat × ((Nat → Nat × Nat) × Nat)
  | [], z => (0, z)
  | t :: ts, z => if 300 < z.2 + 1 then (6, (z.1, z.2 + 1)) else if (wkB D inner op f t (z.1, z.2 + 1)).1 = 0 then wkL D inner op f ts (wkB D inner op f t (z.1, z.2 + 1)).2 else wkB D inner op f t (z.1, z.2 + 1)
/-- the walk: fuel n, the open recipes as bits -/
def wk (D : Dt) : Nat → Nat → Rc → Nat × Nat → ((Nat → Nat × Nat) × Nat) → Nat × ((Nat → Nat × Nat) × Nat)
  | 0, _, _, _, z => (2, z)
  | n + 1, op, Z, f, z => wkL D (fun r Z2 f2 z2 => wk D n (op ||| 2 ^ r) Z2 f2 z2) op f Z.its z
def stOk (S : Nat → Nat × Nat) : Prop := ∀ i, i < 12 → isF (S i)
theorem omul_ok {a b : Option (Nat × Nat)} (ha : okO a) (hb : okO b) : okO (omul a b) := by
  intro q e
  cases a with
  | none => cases e
  | some x =>
    cases b with
    | none => cases e
    | some y => exact fr_isF (f_pos (ha x rfl).2.1 (hb y rfl).2.1) e
theorem fOf_ok {t : It} {f : Nat × Nat} {Z : Rc} (ht : t.ok) (hf : isF f) (hZ : Z.ok) : okO (fOf t f Z) := by
  intro q e
  unfold fOf at e
  have h1 := omul_ok (okO_s ht.1) (okO_s hf)
  cases h : omul (some t.am) (some f) with
  | none => rw [h] at e; cases e
  | some x =>
    rw [h] at e
    exact fr_isF (f_pos (h1 x h).2.1 hZ.2.2.2.2.1) e
theorem adI_ok {D : Dt} (hD : D.ok) {t : It} (ht : t.ok) (hs : t.so < 12) {f : Nat × Nat} (hf : isF f) {S : Nat → Nat × Nat} (hS : stOk S) : stOk (adI D t f S).2 ∧ (adI D t f S).1 ≤ 6 := by
  unfold adI
  cases hg : (D.ig t.so).gr t.un with
  | none => exact ⟨hS, show 4 ≤ 6 by decide⟩
  | some g =>
    dsimp only
    have h1 := Ig.gr_ok (hD.2.1 t.so hs) t.un
    have h2 := adO_ok (hS t.so hs) (omul_ok (omul_ok (okO_s ht.1) (okO_s hf)) (hg ▸ h1))
    cases ha : adO (S t.so) (omul (omul (some t.am) (some f)) (some g)) with
    | none => exact ⟨hS, show 5 ≤ 6 by decide⟩
    | some q =>
      refine ⟨?_, show 0 ≤ 6 by decide⟩
      intro i hi
      unfold upS
      dsimp only
      split
      · exact h2 q ha
      · exact hS i hi
section
variable (P : Nat → Option rs_C) (n s : Nat) (I : Nat → Nat → Int32) (J : Nat → Nat → Int64) (R : Nat → Nat → Option Nat) (d : Nat) (Q : rs_H → Option Value → Prop)
theorem k_St {b q : Nat} {D : Dt} (h : cSt P b q D) : rs_isK ((sk_w P n s I J R).1 q) 6 ↔ True := by
  obtain ⟨V, a, c, e, Ua, Uc, Ue, h1, h2⟩ := h
  rw [sk_cP n s I J R h1]
  exact rs_isK_s _ _ _
theorem k_Rc {b q r : Nat} {X : Rc} (h : cRc P b q r X) : rs_isK ((sk_w P n s I J R).1 q) 4 ↔ True := by
  obtain ⟨V, a, c, h1, h2⟩ := h
  rw [sk_cP n s I J R h1]
  exact rs_isK_s _ _ _
theorem k_Ig {b q : Nat} {g : Ig} (h : cIg P b q g) : rs_isK ((sk_w P n s I J R).1 q) 0 ↔ True := by
  obtain ⟨V, a, c, Ua, Uc, h1, h2⟩ := h
  rw [sk_cP n s I J R h1]
  exact rs_isK_s _ _ _
theorem k_Sb {b q : Nat} {g : Sb} (h : cSb P b q g) : rs_isK ((sk_w P n s I J R).1 q) 7 ↔ True := by
  obtain ⟨V, h1, h2⟩ := h
  rw [sk_cP n s I J R h1]
  exact rs_isK_s _ _ _
theorem k_It {b q : Nat} {g : It} (h : cIt P b q g) : rs_isK ((sk_w P n s I J R).1 q) 1 ↔ True := by
  obtain ⟨V, h1, h2⟩ := h
  rw [sk_cP n s I J R h1]
  exact rs_isK_s _ _ _
theorem s_addItem_46 {b q x : Nat} {D : Dt} {t : It} (hq : cSt P b q D) (hx : cIt P b x t) (hD : D.ok) (ht : t.ok) (hs : t.so < 12) {f : Nat × Nat} (hf : isF f) {S : Nat → Nat × Nat} (hS : stOk S) : rs_XM (d + 4) yX3_addItem [.ref 46, .ref q, .ref x, .long (pkF f)] (sk_w P n s I (jS J 47 12 S) R) Q ↔ Q (sk_w P n s I (jS J 47 12 (adI D t f S).2) R) (some (.int (nI (adI D t f S).1))) := by
  obtain ⟨y, hy, cy⟩ := g_ingredientAt hq hs
  have hx2 := hx
  obtain ⟨V, h1, v0, v1, v2⟩ := hx2
  have hg := Ig.gr_ok (hD.2.1 t.so hs) t.un
  have hm := omul_ok (okO_s ht.1) (okO_s hf)
  rw [em_X3_addItem]
  simp (disch := omega) only [K_X3_addItem, lk_X3_addItem, XI, Nat.reduceAdd, Nat.reduceEqDiff, not_false_eq_true, nI_T1, nI_T0, true_and, and_true, WC, WV, WU, sk_cP n s I _ R h1, v0, v1, v2, cy, k_St P n s I _ R hq, k_Ig P n s I _ R hy, g_gramsOf n s I _ R _ _ hy ht.2.2.1, lg_cmp_ge, lg_cmp_lt, lN_0, pkO_nn _ hg, ← pkO_s t.am, ← pkO_s f, s_X0_product _ _ _ (okO_s ht.1) (okO_s hf), s_X0_product _ _ _ hm hg]
  unfold adI
  cases hc : (D.ig t.so).gr t.un with
  | none => rw [if_neg (fun z => z rfl)]
  | some g =>
    rw [if_pos (fun z => by cases z)]
    rw [hc] at hg
    dsimp only
    cases ha : adO (S t.so) (omul (omul (some t.am) (some f)) (some g)) with
    | none => simp (disch := omega) only [K_X3_addItem, lk_X3_addItem, XI, Nat.reduceAdd, Nat.reduceEqDiff, not_false_eq_true, nI_T1, nI_T0, true_and, and_true, WC, WV, WU, su_add_46_n P n s I _ R _ _ hs (jS_at J 47 12 S hs) (hS t.so hs) (omul_ok hm hg) ha]
    | some p => simp (disch := omega) only [K_X3_addItem, lk_X3_addItem, XI, Nat.reduceAdd, Nat.reduceEqDiff, not_false_eq_true, nI_T1, nI_T0, true_and, and_true, WC, WV, WU, su_add_46_s P n s I _ R _ _ hs (jS_at J 47 12 S hs) (hS t.so hs) (omul_ok hm hg) ha, jS_u _ _ _ _ hs]
end
