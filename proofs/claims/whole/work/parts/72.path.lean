/-! the first path of an allergen: the walk itself, and why a recipe gone through once needs no second time -/
def coB (D : Dt) (a so : Nat) : Bool := ((D.ig so).con ||| (D.ig so).tra).testBit a
def pwL (D : Dt) (a : Nat) (inner : Nat → Nat × List Nat) : List It → Nat × List Nat
  | [] => (0, [])
  | t :: ts => if 12 ≤ t.so then (if (inner (t.so - 12)).1 = 0 then pwL D a inner ts else if (inner (t.so - 12)).1 = 1 then (1, (t.so - 12) :: (inner (t.so - 12)).2) else (2, [])) else if coB D a t.so = true then (1, [100 + t.so]) else pwL D a inner ts
theorem pwL_n (D : Dt) (a : Nat) (inner : Nat → Nat × List Nat) : pwL D a inner [] = (0, []) := rfl
theorem pwL_c (D : Dt) (a : Nat) (inner : Nat → Nat × List Nat) (t : It) (ts : List It) : pwL D a inner (t :: ts) = if 12 ≤ t.so then (if (inner (t.so - 12)).1 = 0 then pwL D a inner ts else if (inner (t.so - 12)).1 = 1 then (1, (t.so - 12) :: (inner (t.so - 12)).2) else (2, [])) else if coB D a t.so = true then (1, [100 + t.so]) else pwL D a inner ts := rfl
def pw (D : Dt) (a : Nat) : Nat → Nat → Nat → Nat × List Nat
  | 0, _, _ => (2, [])
  | m + 1, op, r => if op.testBit r = true then (2, []) else match D.rc r with
    | none => (0, [])
    | some Z => pwL D a (fun c => pw D a m (op ||| 2 ^ r) c) Z.its
theorem pw_s (D : Dt) (a m op r : Nat) : pw D a (m + 1) op r = if op.testBit r = true then (2, []) else match D.rc r with
    | none => (0, [])
    | some Z => pwL D a (fun c => pw D a m (op ||| 2 ^ r) c) Z.its := rfl
theorem pwL_le (D : Dt) (a : Nat) {inner : Nat → Nat × List Nat} (h : ∀ c, (inner c).1 ≤ 2) : ∀ l, (pwL D a inner l).1 ≤ 2
  | [] => Nat.zero_le _
  | t :: ts => by
    rw [pwL_c]
    split
    · split
      · exact pwL_le D a h ts
      · split
        · exact show 1 ≤ 2 by decide
        · exact Nat.le_refl 2
    · split
      · exact show 1 ≤ 2 by decide
      · exact pwL_le D a h ts
theorem pw_le (D : Dt) (a : Nat) : ∀ m op r, (pw D a m op r).1 ≤ 2
  | 0, _, _ => Nat.le_refl 2
  | m + 1, op, r => by
    rw [pw_s]
    split
    · exact Nat.le_refl 2
    · cases D.rc r with
      | none => exact Nat.zero_le _
      | some Z => exact pwL_le D a (fun c => pw_le D a m _ c) Z.its
/-- recipes gone through, in their order: what each holds is harmless, or gone through before -/
def FG (D : Dt) (a fin : Nat) (F : List Nat) : Prop := fin < 256 ∧ F.length ≤ pc8 fin ∧ (∀ r : Nat, fin.testBit r = true ↔ ∃ i : Nat, F[i]? = some r) ∧ (∀ i j r : Nat, F[i]? = some r → F[j]? = some r → i = j) ∧ ∀ i r : Nat, F[i]? = some r → ∃ Z, D.rc r = some Z ∧ ∀ (k : Nat) (t : It), Z.its[k]? = some t → (t.so < 12 → ¬ coB D a t.so = true) ∧ (12 ≤ t.so → D.rc (t.so - 12) = none ∨ ∃ j, j < i ∧ F[j]? = some (t.so - 12))
theorem pwL_0 (D : Dt) (a : Nat) {inner : Nat → Nat × List Nat} : ∀ (l : List It), (∀ t, t ∈ l → (t.so < 12 → ¬ coB D a t.so = true) ∧ (12 ≤ t.so → (inner (t.so - 12)).1 = 0)) → pwL D a inner l = (0, [])
  | [], _ => rfl
  | t :: ts, h => by
    have ht := h t List.mem_cons_self
    rw [pwL_c]
    by_cases e : 12 ≤ t.so
    · rw [if_pos e, if_pos (ht.2 e)]
      exact pwL_0 D a ts (fun x hx => h x (List.mem_cons_of_mem _ hx))
    · rw [if_neg e, if_neg (ht.1 (by omega))]
      exact pwL_0 D a ts (fun x hx => h x (List.mem_cons_of_mem _ hx))
theorem pw_good {D : Dt} {a fin : Nat} {F : List Nat} (hF : FG D a fin F) : ∀ (b i r m op : Nat), i < b → F[i]? = some r → i + 1 < m → (∀ g, op.testBit g = true → ¬ D.rc g = none) → (∀ j g : Nat, j ≤ i → F[j]? = some g → ¬ op.testBit g = true) → pw D a m op r = (0, [])
  | 0, i, r, m, op, hb, hi, hm, hp, hd => absurd hb (Nat.not_lt_zero i)
  | b + 1, i, r, m, op, hb, hi, hm, hp, hd => by
    obtain ⟨m2, rfl⟩ : ∃ m2, m = m2 + 2 := ⟨m - 2, by omega⟩
    obtain ⟨Z, hZ, hit⟩ := hF.2.2.2.2 i r hi
    have hr := hd i r (Nat.le_refl i) hi
    have hp2 : ∀ g, (op ||| 2 ^ r).testBit g = true → ¬ D.rc g = none := by
      intro g z y
      rw [Nat.testBit_or, Bool.or_eq_true] at z
      rcases z with z | z
      · exact hp _ z y
      · rw [Nat.testBit_two_pow, decide_eq_true_eq] at z
        rw [← z, hZ] at y
        cases y
    rw [pw_s, if_neg hr, hZ]
    refine pwL_0 D a Z.its (fun t ht => ?_)
    obtain ⟨k, hk⟩ := List.mem_iff_getElem?.mp ht
    refine ⟨(hit k t hk).1, fun e => ?_⟩
    rcases (hit k t hk).2 e with h | ⟨j, hj, hjc⟩
    · rw [pw_s, if_neg (fun z => hp2 _ z h), h]
    · rw [pw_good hF b j (t.so - 12) (m2 + 1) (op ||| 2 ^ r) (by omega) hjc (by omega) hp2 ?_]
      intro j' g hj' hg z
      rw [Nat.testBit_or, Bool.or_eq_true] at z
      rcases z with z | z
      · exact hd j' g (by omega) hg z
      · rw [Nat.testBit_two_pow, decide_eq_true_eq] at z
        have := hF.2.2.2.1 i j' r hi (by rw [hg, z])
        omega
theorem FG_0 (D : Dt) (a : Nat) : FG D a 0 [] := ⟨show 0 < 256 by decide, Nat.zero_le _, fun r => ⟨fun h => (by rw [Nat.zero_testBit] at h; cases h), fun ⟨i, h⟩ => (by cases h)⟩, fun i j r h => (by cases h), fun i r h => (by cases h)⟩
/-- one more recipe gone through -/
theorem FG_s {D : Dt} {a fin r : Nat} {F : List Nat} (hF : FG D a fin F) (hr : r < 8) (hn : ¬ fin.testBit r = true) {Z : Rc} (hZ : D.rc r = some Z) (hit : ∀ (k : Nat) (t : It), Z.its[k]? = some t → (t.so < 12 → ¬ coB D a t.so = true) ∧ (12 ≤ t.so → D.rc (t.so - 12) = none ∨ fin.testBit (t.so - 12) = true)) : FG D a (fin ||| 2 ^ r) (F ++ [r]) := by
  obtain ⟨h1, h2, h3, h4, h5⟩ := hF
  have hlen : (F ++ [r]).length = F.length + 1 := by rw [List.length_append, List.length_singleton]
  have hg : ∀ i x : Nat, (F ++ [r])[i]? = some x ↔ (F[i]? = some x ∨ (i = F.length ∧ x = r)) := by
    intro i x
    by_cases e : i < F.length
    · rw [List.getElem?_append_left e]
      exact ⟨Or.inl, fun z => z.elim id (fun z => by omega)⟩
    · rw [List.getElem?_append_right (by omega), List.getElem?_eq_none (l := F) (by omega)]
      by_cases e2 : i = F.length
      · rw [e2, Nat.sub_self]
        exact ⟨fun z => Or.inr ⟨rfl, by cases z; rfl⟩, fun z => z.elim (fun z => by cases z) (fun z => by rw [z.2]; rfl)⟩
      · rw [List.getElem?_eq_none (by rw [List.length_singleton]; omega)]
        exact ⟨fun z => (by cases z), fun z => z.elim (fun z => (by cases z)) (fun z => absurd z.1 e2)⟩
  refine ⟨or_lt8 h1 (pow_lt8 hr), by rw [hlen, pc8_s fin h1 r hr hn]; omega, ?_, ?_, ?_⟩
  · intro x
    rw [Nat.testBit_or, Bool.or_eq_true, h3, Nat.testBit_two_pow, decide_eq_true_eq]
    constructor
    · rintro (⟨i, hi⟩ | e)
      · exact ⟨i, (hg i x).mpr (Or.inl hi)⟩
      · exact ⟨F.length, (hg _ x).mpr (Or.inr ⟨rfl, e.symm⟩)⟩
    · rintro ⟨i, hi⟩
      rcases (hg i x).mp hi with h | ⟨_, h⟩
      · exact Or.inl ⟨i, h⟩
      · exact Or.inr h.symm
  · intro i j x hi hj
    rcases (hg i x).mp hi with a1 | ⟨a1, a2⟩
    · rcases (hg j x).mp hj with b1 | ⟨b1, b2⟩
      · exact h4 i j x a1 b1
      · exact absurd ((h3 r).mpr ⟨i, by rw [← b2]; exact a1⟩) hn
    · rcases (hg j x).mp hj with b1 | ⟨b1, b2⟩
      · exact absurd ((h3 r).mpr ⟨j, by rw [← a2]; exact b1⟩) hn
      · omega
  · intro i x hi
    rcases (hg i x).mp hi with a1 | ⟨a1, a2⟩
    · obtain ⟨Y, hY, hY2⟩ := h5 i x a1
      refine ⟨Y, hY, fun k t hk => ⟨(hY2 k t hk).1, fun e => ?_⟩⟩
      rcases (hY2 k t hk).2 e with h | ⟨j, hj, hjc⟩
      · exact Or.inl h
      · exact Or.inr ⟨j, hj, (hg j _).mpr (Or.inl hjc)⟩
    · refine ⟨Z, by rw [a2]; exact hZ, fun k t hk => ⟨(hit k t hk).1, fun e => ?_⟩⟩
      rcases (hit k t hk).2 e with h | h
      · exact Or.inl h
      · obtain ⟨j, hj⟩ := (h3 _).mp h
        have := (List.getElem?_eq_some_iff.mp hj).1
        exact Or.inr ⟨j, by omega, (hg j _).mpr (Or.inl hj)⟩
/-! the class's walk is the walk -/
def pf (I I' : Nat → Nat → Int32) : Prop := ∀ q j, ¬ q = 59 → ¬ q = 60 → I' q j = I q j
theorem pf_t {I I' I2 : Nat → Nat → Int32} (h : pf I I') (h2 : pf I' I2) : pf I I2 := fun q j a b => (h2 q j a b).trans (h q j a b)
/-- the class's walk, with so much fuel -/
def PwC (P : Nat → Option rs_C) (b q : Nat) (D : Dt) (a m : Nat) : Prop := ∀ (d n s : Nat) (I : Nat → Nat → Int32) (J : Nat → Nat → Int64) (R : Nat → Nat → Option Nat) (Q : rs_H → Option Value → Prop) (op r fin dep : Nat) (F : List Nat), m + dep = 20 → dep ≤ 8 → op < 256 → r < 8 → pc8 op = dep → (∀ g, op.testBit g = true → ¬ D.rc g = none) → FG D a fin F → (∀ g, fin.testBit g = true → ¬ op.testBit g = true) → I 59 2 = nI fin → 2 * (9 - dep) + 5 ≤ d →
  (∀ I' fin' F', (pw D a m op r).1 = 0 → FG D a fin' F' → (∀ g, fin.testBit g = true → fin'.testBit g = true) → (∀ g, fin'.testBit g = true → ¬ op.testBit g = true) → (D.rc r = none ∨ fin'.testBit r = true) → I' 59 2 = nI fin' → (∀ j, j < dep → I' 60 j = I 60 j) → pf I I' → Q (sk_w P n s I' J R) (some (.int (nI 0)))) →
  (∀ I', (pw D a m op r).1 = 1 → I' 59 1 = nI (dep + 1 + (pw D a m op r).2.length) → (∀ j, j < dep → I' 60 j = I 60 j) → I' 60 dep = nI r → (∀ (j v : Nat), (pw D a m op r).2[j]? = some v → I' 60 (dep + 1 + j) = nI v ∧ dep + 1 + j < 9) → pf I I' → Q (sk_w P n s I' J R) (some (.int (nI 1)))) →
  (∀ I', (pw D a m op r).1 = 2 → pf I I' → Q (sk_w P n s I' J R) (some (.int (nI 2)))) →
  rs_XM d yX4_walk [.ref 59, .ref q, .int (nI r), .int (nI a), .int (nI op), .int (nI dep)] (sk_w P n s I J R) Q
section
variable (P : Nat → Option rs_C) (n s : Nat) (J : Nat → Nat → Int64) (R : Nat → Nat → Option Nat) (d : Nat) (Q : rs_H → Option Value → Prop)
theorem s_putStep (I : Nat → Nat → Int32) {k : Nat} (hk : k < 9) (v : Int32) : rs_XM d yX4_putStep [.ref 59, .int (nI k), .int v] (sk_w P n s I J R) Q ↔ Q (sk_w P n s (rs_u2 I 60 k v) J R) none := by
  rw [em_X4_putStep]
  simp (disch := omega) only [K_X4_putStep, lk_X4_putStep, XI, Nat.reduceAdd, Nat.reduceEqDiff, not_false_eq_true, nI_T1, nI_T0, true_and, and_true, WC, WV, WU, nI_lt0S, nI_leS, nI_cl, rs_in_t, if_false]
  rw [if_neg (by omega)]
theorem s_look {b q x : Nat} {D : Dt} (hq : cSt P b q D) (hD : D.ok) {t : It} (hx : cIt P b x t) (ht : t.so < 12) {a dep : Nat} (ha : a ≤ 7) (hdep : dep < 8) (I : Nat → Nat → Int32) : rs_XM (d + 2) yX4_look [.ref 59, .ref q, .ref x, .int (nI a), .int (nI dep)] (sk_w P n s I J R) Q ↔ (if coB D a t.so = true then Q (sk_w P n s (rs_u2 (rs_u2 I 60 (dep + 1) (nI (100 + t.so))) 59 1 (nI (dep + 2))) J R) (some (.int (nI 1))) else Q (sk_w P n s I J R) (some (.int (nI 0)))) := by
  obtain ⟨y, hy, cy⟩ := g_ingredientAt hq ht
  obtain ⟨V, h1, v0, v1, v2⟩ := id hx
  have hg := hD.2.1 t.so ht
  rw [em_X4_look]
  simp (disch := omega) only [K_X4_look, lk_X4_look, XI, Nat.reduceAdd, Nat.reduceEqDiff, not_false_eq_true, nI_T1, nI_T0, true_and, and_true, WC, WV, WU, k_St P n s I J R hq, sk_cP n s I J R h1, v2, cy, k_Ig P n s I J R hy, g_concerns n s I J R _ _ hy hg, rs_b_0, Classical.not_not]
  unfold coB
  by_cases e : ((D.ig t.so).con ||| (D.ig t.so).tra).testBit a = true
  · rw [if_pos e, if_pos e]
    simp (disch := omega) only [K_X4_look, lk_X4_look, XI, Nat.reduceAdd, Nat.reduceEqDiff, not_false_eq_true, nI_T1, nI_T0, true_and, and_true, WC, WV, WU, sk_cP n s _ J R h1, v2, nI_addS, s_putStep]
  · rw [if_neg e, if_neg e]
end
