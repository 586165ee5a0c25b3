/-! a text is read: the reading itself, and the class's reading of numbers, amounts, units -/
def pB (tp : List Nat) (lo hi p : Nat) : Option Nat := match tp[p]? with
  | none => none
  | some v => if lo ≤ v ∧ v ≤ hi then some (v - lo) else none
def pN (tp : List Nat) (p : Nat) : Nat × Option Nat := match pB tp 49 57 p with
  | none => (p, none)
  | some a => match pB tp 48 57 (p + 1) with
    | none => (p + 1, some (a + 1))
    | some b => match pB tp 48 57 (p + 2) with
      | none => (p + 2, some ((a + 1) * 10 + b))
      | some c => (p + 3, some (((a + 1) * 10 + b) * 10 + c))
def pF (tp : List Nat) (p : Nat) : Nat × Option (Nat × Nat) := match (pN tp p).2 with
  | none => ((pN tp p).1, none)
  | some u => if tp[(pN tp p).1]? = some 47 then (match (pN tp ((pN tp p).1 + 1)).2 with
      | none => ((pN tp ((pN tp p).1 + 1)).1, none)
      | some v => ((pN tp ((pN tp p).1 + 1)).1, some (u, v))) else ((pN tp p).1, some (u, 1))
def pUn (tp : List Nat) (p : Nat) : Nat × Option Nat := if tp[p]? = some 103 then (p + 1, some 0) else if tp[p]? = some 109 then (p + 1, some 1) else if tp[p]? = some 112 then (p + 1, some 2) else (p, none)
def pAm (tp : List Nat) (p : Nat) : Nat × Option ((Nat × Nat) × Nat) := match (pF tp p).2 with
  | none => ((pF tp p).1, none)
  | some f => match (pUn tp (pF tp p).1).2 with
    | none => ((pUn tp (pF tp p).1).1, none)
    | some k => ((pUn tp (pF tp p).1).1, some (f, k))
def pSo (tp : List Nat) (p : Nat) : Nat × Option Nat := match pB tp 97 108 p with
  | some k => (p + 1, some k)
  | none => match pB tp 48 55 p with
    | some k => (p + 1, some (12 + k))
    | none => (p, none)
/-- in lowest terms -/
def lw (f : Nat × Nat) : Nat × Nat := (f.1 / Nat.gcd f.1 f.2, f.2 / Nat.gcd f.1 f.2)
def pIt (tp : List Nat) (p : Nat) : Nat × Option It := match (pAm tp p).2 with
  | none => ((pAm tp p).1, none)
  | some f => match (pSo tp (pAm tp p).1).2 with
    | none => ((pSo tp (pAm tp p).1).1, none)
    | some s => ((pSo tp (pAm tp p).1).1, some (It.mk (lw f.1) f.2 s))
def pIts (tp : List Nat) : Nat → Nat → List It → Nat × Option (List It)
  | 0, p, acc => (p, some acc)
  | m + 1, p, acc => match (pIt tp p).2 with
    | none => ((pIt tp p).1, none)
    | some t => if m = 0 then ((pIt tp p).1, some (acc ++ [t])) else if tp[(pIt tp p).1]? = some 44 then pIts tp m ((pIt tp p).1 + 1) (acc ++ [t]) else ((pIt tp p).1, some (acc ++ [t]))
theorem pIts_s (tp : List Nat) (m p : Nat) (acc : List It) : pIts tp (m + 1) p acc = (match (pIt tp p).2 with
    | none => ((pIt tp p).1, none)
    | some t => if m = 0 then ((pIt tp p).1, some (acc ++ [t])) else if tp[(pIt tp p).1]? = some 44 then pIts tp m ((pIt tp p).1 + 1) (acc ++ [t]) else ((pIt tp p).1, some (acc ++ [t]))) := rfl
/-- what stands behind the yield -/
def pEn (tp : List Nat) (p : Nat) : Nat × Option Nat := if tp[p]? = some 64 then (match (pN tp (p + 1)).2 with
    | none => ((pN tp (p + 1)).1, none)
    | some v => if (pN tp (p + 1)).1 = tp.length then ((pN tp (p + 1)).1, some v) else ((pN tp (p + 1)).1, none)) else if p = tp.length then (p, some 0) else (p, none)
def pRc (tp : List Nat) : Nat × Option (Nat × Rc) := match pB tp 48 55 0 with
  | none => (0, none)
  | some r => if tp[1]? = some 58 then (match (pIts tp 6 2 []).2 with
      | none => ((pIts tp 6 2 []).1, none)
      | some l => if tp[(pIts tp 6 2 []).1]? = some 61 then (match (pAm tp ((pIts tp 6 2 []).1 + 1)).2 with
          | none => ((pAm tp ((pIts tp 6 2 []).1 + 1)).1, none)
          | some f => match (pEn tp (pAm tp ((pIts tp 6 2 []).1 + 1)).1).2 with
            | none => ((pEn tp (pAm tp ((pIts tp 6 2 []).1 + 1)).1).1, none)
            | some v => ((pEn tp (pAm tp ((pIts tp 6 2 []).1 + 1)).1).1, some (r, Rc.mk l (lw f.1) f.2 v))) else ((pIts tp 6 2 []).1, none)) else (1, none)
section
variable {tp : List Nat}
theorem lt_of_get {p v : Nat} (h : tp[p]? = some v) : p < tp.length := (List.getElem?_eq_some_iff.mp h).1
theorem pB_s {lo hi p v : Nat} (h : pB tp lo hi p = some v) : p < tp.length ∧ v ≤ hi - lo ∧ tp[p]? = some (v + lo) ∧ v + lo ≤ hi := by
  unfold pB at h
  cases hz : tp[p]? with
  | none => rw [hz] at h; cases h
  | some x =>
    rw [hz] at h
    dsimp only at h
    split at h
    · cases h
      exact ⟨lt_of_get hz, by omega, by rw [show x - lo + lo = x by omega], by omega⟩
    · cases h
theorem pN_le {p : Nat} (hp : p ≤ tp.length) : (pN tp p).1 ≤ tp.length ∧ ∀ v, (pN tp p).2 = some v → 1 ≤ v ∧ v ≤ 999 := by
  unfold pN
  cases h1 : pB tp 49 57 p with
  | none => exact ⟨hp, fun v e => by cases e⟩
  | some a =>
    have a1 := pB_s h1
    dsimp only
    cases h2 : pB tp 48 57 (p + 1) with
    | none => exact ⟨by show p + 1 ≤ _; omega, fun v e => by cases e; omega⟩
    | some b =>
      have a2 := pB_s h2
      dsimp only
      cases h3 : pB tp 48 57 (p + 2) with
      | none => exact ⟨by show p + 2 ≤ _; omega, fun v e => by cases e; omega⟩
      | some c =>
        have a3 := pB_s h3
        exact ⟨by show p + 3 ≤ _; omega, fun v e => by cases e; omega⟩
theorem pF_le {p : Nat} (hp : p ≤ tp.length) : (pF tp p).1 ≤ tp.length ∧ ∀ f, (pF tp p).2 = some f → 1 ≤ f.1 ∧ f.1 ≤ 999 ∧ 1 ≤ f.2 ∧ f.2 ≤ 999 := by
  have h1 := pN_le (tp := tp) hp
  unfold pF
  cases e1 : (pN tp p).2 with
  | none => exact ⟨h1.1, fun f e => by cases e⟩
  | some u =>
    have hu := h1.2 u e1
    dsimp only
    by_cases c : tp[(pN tp p).1]? = some 47
    · rw [if_pos c]
      have h2 := pN_le (tp := tp) (p := (pN tp p).1 + 1) (lt_of_get c)
      cases e2 : (pN tp ((pN tp p).1 + 1)).2 with
      | none => exact ⟨h2.1, fun f e => by cases e⟩
      | some v =>
        have hv := h2.2 v e2
        exact ⟨h2.1, fun f e => by cases e; exact ⟨hu.1, hu.2, hv.1, hv.2⟩⟩
    · rw [if_neg c]
      exact ⟨h1.1, fun f e => by cases e; exact ⟨hu.1, hu.2, Nat.le_refl 1, show 1 ≤ 999 by decide⟩⟩
theorem pUn_le {p : Nat} (hp : p ≤ tp.length) : (pUn tp p).1 ≤ tp.length ∧ ∀ k, (pUn tp p).2 = some k → k ≤ 2 := by
  unfold pUn
  split
  · rename_i h
    exact ⟨lt_of_get h, fun k e => by cases e; decide⟩
  · split
    · rename_i h
      exact ⟨lt_of_get h, fun k e => by cases e; decide⟩
    · split
      · rename_i h
        exact ⟨lt_of_get h, fun k e => by cases e; decide⟩
      · exact ⟨hp, fun k e => by cases e⟩
theorem pAm_le {p : Nat} (hp : p ≤ tp.length) : (pAm tp p).1 ≤ tp.length ∧ ∀ f, (pAm tp p).2 = some f → (1 ≤ f.1.1 ∧ f.1.1 ≤ 999 ∧ 1 ≤ f.1.2 ∧ f.1.2 ≤ 999) ∧ f.2 ≤ 2 := by
  have h1 := pF_le (tp := tp) hp
  have h2 := pUn_le (tp := tp) h1.1
  unfold pAm
  cases e1 : (pF tp p).2 with
  | none => exact ⟨h1.1, fun f e => by cases e⟩
  | some u =>
    dsimp only
    cases e2 : (pUn tp (pF tp p).1).2 with
    | none => exact ⟨h2.1, fun f e => by cases e⟩
    | some k => exact ⟨h2.1, fun f e => by cases e; exact ⟨h1.2 u e1, h2.2 k e2⟩⟩
theorem pSo_le {p : Nat} (hp : p ≤ tp.length) : (pSo tp p).1 ≤ tp.length ∧ ∀ k, (pSo tp p).2 = some k → k < 20 := by
  unfold pSo
  cases h1 : pB tp 97 108 p with
  | some a =>
    have a1 := pB_s h1
    exact ⟨by show p + 1 ≤ _; omega, fun k e => by cases e; omega⟩
  | none =>
    dsimp only
    cases h2 : pB tp 48 55 p with
    | some a =>
      have a1 := pB_s h2
      exact ⟨by show p + 1 ≤ _; omega, fun k e => by cases e; omega⟩
    | none => exact ⟨hp, fun k e => by cases e⟩
theorem lw_fr {f : Nat × Nat} (h : 1 ≤ f.1 ∧ f.1 ≤ 999 ∧ 1 ≤ f.2 ∧ f.2 ≤ 999) : fr f.1 f.2 = some (lw f) ∧ isF (lw f) ∧ 1 ≤ (lw f).1 := by
  obtain ⟨q, e1, e2, e3⟩ := fr_small (u := f.1) (v := f.2) (by omega) h.2.2.1 (by omega)
  have e4 : q = lw f := e2
  rw [e4] at e1 e3
  exact ⟨e1, e3, Nat.div_pos (Nat.le_of_dvd h.1 (Nat.gcd_dvd_left _ _)) (Nat.gcd_pos_of_pos_left _ h.1)⟩
theorem pIt_le {p : Nat} (hp : p ≤ tp.length) : (pIt tp p).1 ≤ tp.length ∧ ∀ t, (pIt tp p).2 = some t → t.ok := by
  have h1 := pAm_le (tp := tp) hp
  have h2 := pSo_le (tp := tp) h1.1
  unfold pIt
  cases e1 : (pAm tp p).2 with
  | none => exact ⟨h1.1, fun f e => by cases e⟩
  | some u =>
    dsimp only
    cases e2 : (pSo tp (pAm tp p).1).2 with
    | none => exact ⟨h2.1, fun f e => by cases e⟩
    | some k =>
      refine ⟨h2.1, fun f e => ?_⟩
      cases e
      have h3 := h1.2 u e1
      have h4 := lw_fr h3.1
      exact ⟨h4.2.1, h4.2.2, h3.2, h2.2 k e2⟩
theorem pIts_le : ∀ (m p : Nat) (acc : List It), p ≤ tp.length → m + acc.length ≤ 6 → (∀ (k : Nat) (t : It), acc[k]? = some t → t.ok) → (pIts tp m p acc).1 ≤ tp.length ∧ ∀ l, (pIts tp m p acc).2 = some l → l.length ≤ 6 ∧ (1 ≤ m → 1 ≤ l.length) ∧ acc.length ≤ l.length ∧ ∀ (k : Nat) (t : It), l[k]? = some t → t.ok
  | 0, p, acc, hp, hl, ha => ⟨hp, fun l e => by
      have e : some acc = some l := e
      cases e
      exact ⟨by omega, fun z => by omega, Nat.le_refl _, ha⟩⟩
  | m + 1, p, acc, hp, hl, ha => by
    have h1 := pIt_le (tp := tp) hp
    rw [pIts_s]
    cases e1 : (pIt tp p).2 with
    | none => exact ⟨h1.1, fun l e => by cases e⟩
    | some t =>
      have ht := h1.2 t e1
      have hlen : (acc ++ [t]).length = acc.length + 1 := by rw [List.length_append, List.length_singleton]
      have ha2 : ∀ (k : Nat) (t2 : It), (acc ++ [t])[k]? = some t2 → t2.ok := by
        intro k t2 hk
        by_cases e : k < acc.length
        · rw [List.getElem?_append_left e] at hk
          exact ha k t2 hk
        · have h2 := (List.getElem?_eq_some_iff.mp hk).1
          rw [hlen] at h2
          rw [List.getElem?_append_right (by omega), show k - acc.length = 0 by omega] at hk
          cases hk
          exact ht
      dsimp only
      split
      · exact ⟨h1.1, fun l e => by cases e; exact ⟨by omega, fun _ => by omega, by omega, ha2⟩⟩
      · split
        · rename_i c
          have h2 := pIts_le m ((pIt tp p).1 + 1) (acc ++ [t]) (lt_of_get c) (by omega) ha2
          refine ⟨h2.1, fun l e => ?_⟩
          obtain ⟨a1, a2, a3, a4⟩ := h2.2 l e
          exact ⟨a1, fun _ => by omega, by omega, a4⟩
        · exact ⟨h1.1, fun l e => by cases e; exact ⟨by omega, fun _ => by omega, by omega, ha2⟩⟩
theorem pEn_le {p : Nat} (hp : p ≤ tp.length) : (pEn tp p).1 ≤ tp.length ∧ ∀ v, (pEn tp p).2 = some v → v ≤ 999 := by
  unfold pEn
  by_cases c : tp[p]? = some 64
  · rw [if_pos c]
    have h1 := pN_le (tp := tp) (p := p + 1) (lt_of_get c)
    cases e1 : (pN tp (p + 1)).2 with
    | none => exact ⟨h1.1, fun v e => by cases e⟩
    | some v =>
      dsimp only
      split
      · exact ⟨h1.1, fun v e => by cases e; exact (h1.2 _ e1).2⟩
      · exact ⟨h1.1, fun v e => by cases e⟩
  · rw [if_neg c]
    split
    · exact ⟨hp, fun v e => by cases e; decide⟩
    · exact ⟨hp, fun v e => by cases e⟩
theorem pRc_ok {r : Nat} {Z : Rc} (h : (pRc tp).2 = some (r, Z)) : r < 8 ∧ Z.ok := by
  unfold pRc at h
  cases e1 : pB tp 48 55 0 with
  | none => rw [e1] at h; cases h
  | some r2 =>
    have a1 := pB_s e1
    rw [e1] at h
    dsimp only at h
    by_cases c1 : tp[1]? = some 58
    · rw [if_pos c1] at h
      have h1 := pIts_le (tp := tp) 6 2 [] (lt_of_get c1) (by decide) (fun k t e => by cases e)
      cases e2 : (pIts tp 6 2 []).2 with
      | none => rw [e2] at h; cases h
      | some l =>
        rw [e2] at h
        dsimp only at h
        by_cases c2 : tp[(pIts tp 6 2 []).1]? = some 61
        · rw [if_pos c2] at h
          have h2 := pAm_le (tp := tp) (p := (pIts tp 6 2 []).1 + 1) (lt_of_get c2)
          cases e3 : (pAm tp ((pIts tp 6 2 []).1 + 1)).2 with
          | none => rw [e3] at h; cases h
          | some f =>
            rw [e3] at h
            dsimp only at h
            have h3 := pEn_le (tp := tp) h2.1
            cases e4 : (pEn tp (pAm tp ((pIts tp 6 2 []).1 + 1)).1).2 with
            | none => rw [e4] at h; cases h
            | some v =>
              rw [e4] at h
              cases h
              obtain ⟨b1, b2, b3, b4⟩ := h1.2 l e2
              have h4 := h2.2 f e3
              have h5 := lw_fr h4.1
              exact ⟨by omega, b2 (by decide), b1, b4, h5.2.1, h5.2.2, h4.2, h3.2 v e4⟩
        · rw [if_neg c2] at h; cases h
    · rw [if_neg c1] at h; cases h
end
/-! the class -/
def oI (o : Option Nat) : Int32 := match o with
  | none => -1
  | some v => nI v
/-- a place, one on where something was taken -/
def stp (o : Option Nat) (p : Nat) : Nat := match o with
  | none => p
  | some _ => p + 1
theorem stp_n (p : Nat) : stp none p = p := rfl
theorem stp_s (a p : Nat) : stp (some a) p = p + 1 := rfl
def TC (I : Nat → Nat → Int32) (tp : List Nat) : Prop := I 43 1 = nI tp.length ∧ (∀ (k v : Nat), tp[k]? = some v → I 44 k = nI v) ∧ tp.length ≤ 60 ∧ ∀ (k v : Nat), tp[k]? = some v → v ≤ 127
theorem oI_lt {o : Option Nat} (h : ∀ v, o = some v → v < 2147483648) : (oI o < 0) ↔ o = none := by
  cases o with
  | none => exact ⟨fun _ => rfl, fun _ => by decide⟩
  | some v => exact ⟨fun z => absurd z (nI_pos (h v rfl)), fun z => by cases z⟩
section
variable {tp : List Nat} (P : Nat → Option rs_C) (n s : Nat) (I : Nat → Nat → Int32) (J : Nat → Nat → Int64) (R : Nat → Nat → Option Nat) (d : Nat) (Q : rs_H → Option Value → Prop)
theorem c_between (hT : TC I tp) {lo hi p : Nat} (hl : lo ≤ hi) (hh : hi ≤ 127) (hp : p ≤ tp.length) : rs_XM d yX10_takeBetween [.ref 43, .int (nI lo), .int (nI hi)] (sk_w P n s (rs_u2 I 43 2 (nI p)) J R) Q ↔ Q (sk_w P n s (rs_u2 I 43 2 (nI (stp (pB tp lo hi p) p))) J R) (some (.int (oI (pB tp lo hi p)))) := by
  obtain ⟨t1, t2, t3, t4⟩ := hT
  rw [em_X10_takeBetween]
  cases hz : tp[p]? with
  | none =>
    have hp2 : tp.length ≤ p := List.getElem?_eq_none_iff.mp hz
    have e0 : pB tp lo hi p = none := by unfold pB; rw [hz]
    rw [e0]
    simp (disch := omega) only [K_X10_takeBetween, lk_X10_takeBetween, XI, Nat.reduceAdd, Nat.reduceEqDiff, not_false_eq_true, nI_T1, nI_T0, true_and, and_true, WC, WV, WU, rs_u2_eq, rs_u2_ne, nI_lt0S, if_false, t1, nI_leS, hp2, if_true]
    exact Iff.rfl
  | some v =>
    have hlt := lt_of_get hz
    have hv := t4 p v hz
    have e1 : ¬ tp.length ≤ p := by omega
    have e2 : p < 60 := by omega
    have e0 : pB tp lo hi p = if lo ≤ v ∧ v ≤ hi then some (v - lo) else none := by unfold pB; rw [hz]
    simp (disch := omega) only [K_X10_takeBetween, lk_X10_takeBetween, XI, Nat.reduceAdd, Nat.reduceEqDiff, not_false_eq_true, nI_T1, nI_T0, true_and, and_true, WC, WV, WU, rs_u2_eq, rs_u2_ne, nI_lt0S, if_false, t1, nI_leS, e1, nI_ltS, e2, if_true, nI_cl, rs_in_t, t2 p v hz, nI_addS, rs_u2_u2]
    by_cases c1 : v < lo
    · rw [if_neg (show ¬ (lo ≤ v ∧ v ≤ hi) by omega)] at e0
      rw [if_pos c1, e0]
      exact Iff.rfl
    · rw [if_neg c1]
      by_cases c2 : v ≤ hi
      · rw [if_pos (show lo ≤ v ∧ v ≤ hi by omega)] at e0
        rw [if_pos c2, e0, nI_subS (by omega)]
        exact Iff.rfl
      · rw [if_neg (show ¬ (lo ≤ v ∧ v ≤ hi) by omega)] at e0
        rw [if_neg c2, e0]
        exact Iff.rfl
theorem c_take (hT : TC I tp) {c p : Nat} (hc : c ≤ 127) (hp : p ≤ tp.length) : rs_XM (d + 1) yX10_take [.ref 43, .int (nI c)] (sk_w P n s (rs_u2 I 43 2 (nI p)) J R) Q ↔ Q (sk_w P n s (rs_u2 I 43 2 (nI (if tp[p]? = some c then p + 1 else p))) J R) (some (.int (rs_b (tp[p]? = some c)))) := by
  have hb : ∀ v, pB tp c c p = some v → v < 2147483648 := fun v e => by have := pB_s e; omega
  rw [em_X10_take]
  simp (disch := omega) only [K_X10_take, lk_X10_take, XI, Nat.reduceAdd, Nat.reduceEqDiff, not_false_eq_true, nI_T1, nI_T0, true_and, and_true, WC, WV, WU, c_between P n s I J R _ _ hT (Nat.le_refl c) hc hp, oI_lt hb]
  by_cases h : tp[p]? = some c
  · have e0 : pB tp c c p = some 0 := by unfold pB; rw [h]; dsimp only; rw [if_pos ⟨Nat.le_refl c, Nat.le_refl c⟩, Nat.sub_self]
    rw [e0, if_pos h, rs_b_t h, if_neg (by intro z; cases z)]
    exact Iff.rfl
  · have e0 : pB tp c c p = none := by
      unfold pB
      cases hz : tp[p]? with
      | none => rfl
      | some v =>
        dsimp only
        rw [if_neg]
        intro z
        exact h (by rw [hz, show v = c by omega])
    rw [e0, if_neg h, rs_b_f h, if_pos rfl]
    exact Iff.rfl
theorem c_number (hT : TC I tp) {p : Nat} (hp : p ≤ tp.length) : rs_XM (d + 1) yX10_takeNumber [.ref 43] (sk_w P n s (rs_u2 I 43 2 (nI p)) J R) Q ↔ Q (sk_w P n s (rs_u2 I 43 2 (nI (pN tp p).1)) J R) (some (.int (oI (pN tp p).2))) := by
  rw [em_X10_takeNumber]
  unfold pN
  have nn : ∀ v, v < 2147483648 → ((0 : Int32) ≤ oI (some v) ↔ True) := fun v h => nI_ge0S h
  have n0 : ((0 : Int32) ≤ oI none) ↔ False := ⟨fun z => absurd z (by decide), fun z => z.elim⟩
  have oIs : ∀ a : Nat, oI (some a) = nI a := fun _ => rfl
  simp (disch := omega) only [g_X10_takeNumber_0, g_X10_takeNumber_1, g_X10_takeNumber_3, g_X10_takeNumber_5, g_X10_takeNumber_8, g_X10_takeNumber_9, g_X10_takeNumber_10, lk_X10_takeNumber, XI, Nat.reduceAdd, Nat.reduceEqDiff, not_false_eq_true, nI_T1, nI_T0, true_and, and_true, WC, WV, WU, c_between P n s I J R _ _ hT (show 49 ≤ 57 by decide) (show 57 ≤ 127 by decide) hp]
  cases h1 : pB tp 49 57 p with
  | none =>
    simp (disch := omega) only [g_X10_takeNumber_13, g_X10_takeNumber_14, lk_X10_takeNumber, XI, Nat.reduceAdd, Nat.reduceEqDiff, not_false_eq_true, nI_T1, nI_T0, true_and, and_true, WC, WV, WU, n0, stp_n, if_false]
    exact Iff.rfl
  | some a =>
    have a1 := pB_s h1
    simp (disch := omega) only [g_X10_takeNumber_15, g_X10_takeNumber_16, g_X10_takeNumber_17, g_X10_takeNumber_18, g_X10_takeNumber_19, g_X10_takeNumber_20, lk_X10_takeNumber, XI, Nat.reduceAdd, Nat.reduceEqDiff, not_false_eq_true, nI_T1, nI_T0, true_and, and_true, WC, WV, WU, nI_ge0S, stp_s, if_true, oIs, nI_addS]
    rw [g_X10_takeNumber_21]
    simp (disch := omega) only [g_X10_takeNumber_22, g_X10_takeNumber_23, g_X10_takeNumber_26, g_X10_takeNumber_27, g_X10_takeNumber_29, g_X10_takeNumber_31, g_X10_takeNumber_34, g_X10_takeNumber_36, g_X10_takeNumber_38, lk_X10_takeNumber, XI, Nat.reduceAdd, Nat.reduceEqDiff, not_false_eq_true, nI_T1, nI_T0, true_and, and_true, WC, WV, WU, nI_leS, Nat.reduceLeDiff, if_false, c_between P n s I J R _ _ hT (show 48 ≤ 57 by decide) (show 57 ≤ 127 by decide) (show p + 1 ≤ tp.length by omega)]
    cases h2 : pB tp 48 57 (p + 1) with
    | none =>
      simp (disch := omega) only [g_X10_takeNumber_41, g_X10_takeNumber_42, lk_X10_takeNumber, XI, Nat.reduceAdd, Nat.reduceEqDiff, not_false_eq_true, nI_T1, nI_T0, true_and, and_true, WC, WV, WU, n0, stp_n, if_false, oIs]
    | some b =>
      have a2 := pB_s h2
      simp (disch := omega) only [g_X10_takeNumber_43, g_X10_takeNumber_44, g_X10_takeNumber_46, g_X10_takeNumber_47, g_X10_takeNumber_49, g_X10_takeNumber_50, g_X10_takeNumber_51, g_X10_takeNumber_54, lk_X10_takeNumber, XI, Nat.reduceAdd, Nat.reduceEqDiff, not_false_eq_true, nI_T1, nI_T0, true_and, and_true, WC, WV, WU, nI_ge0S, stp_s, if_true, oIs, nI_addS, nI_mulS]
      rw [g_X10_takeNumber_21]
      simp (disch := omega) only [g_X10_takeNumber_22, g_X10_takeNumber_23, g_X10_takeNumber_26, g_X10_takeNumber_27, g_X10_takeNumber_29, g_X10_takeNumber_31, g_X10_takeNumber_34, g_X10_takeNumber_36, g_X10_takeNumber_38, lk_X10_takeNumber, XI, Nat.reduceAdd, Nat.reduceEqDiff, not_false_eq_true, nI_T1, nI_T0, true_and, and_true, WC, WV, WU, nI_leS, Nat.reduceLeDiff, if_false, c_between P n s I J R _ _ hT (show 48 ≤ 57 by decide) (show 57 ≤ 127 by decide) (show p + 1 + 1 ≤ tp.length by omega)]
      rw [show p + 1 + 1 = p + 2 from rfl]
      cases h3 : pB tp 48 57 (p + 2) with
      | none =>
        simp (disch := omega) only [g_X10_takeNumber_41, g_X10_takeNumber_42, lk_X10_takeNumber, XI, Nat.reduceAdd, Nat.reduceEqDiff, not_false_eq_true, nI_T1, nI_T0, true_and, and_true, WC, WV, WU, n0, stp_n, if_false, oIs]
      | some c =>
        have a3 := pB_s h3
        simp (disch := omega) only [g_X10_takeNumber_43, g_X10_takeNumber_44, g_X10_takeNumber_46, g_X10_takeNumber_47, g_X10_takeNumber_49, g_X10_takeNumber_50, g_X10_takeNumber_51, g_X10_takeNumber_54, lk_X10_takeNumber, XI, Nat.reduceAdd, Nat.reduceEqDiff, not_false_eq_true, nI_T1, nI_T0, true_and, and_true, WC, WV, WU, nI_ge0S, stp_s, if_true, oIs, nI_addS, nI_mulS]
        rw [g_X10_takeNumber_21]
        simp (disch := omega) only [g_X10_takeNumber_22, g_X10_takeNumber_23, lk_X10_takeNumber, g_X10_takeNumber_57, g_X10_takeNumber_58, lk_X10_takeNumber, XI, Nat.reduceAdd, Nat.reduceEqDiff, not_false_eq_true, nI_T1, nI_T0, true_and, and_true, WC, WV, WU, nI_leS, Nat.reduceLeDiff, if_true]
/-- an amount as a long; below 0 where the text is wrong -/
def aL (o : Option (Nat × Nat)) : Int64 := match o with
  | none => -1
  | some f => pkF (lw f)
theorem c_amount (hT : TC I tp) {p : Nat} (hp : p ≤ tp.length) : rs_XM (d + 2) yX10_takeAmount [.ref 43] (sk_w P n s (rs_u2 I 43 2 (nI p)) J R) Q ↔ Q (sk_w P n s (rs_u2 I 43 2 (nI (pF tp p).1)) J R) (some (.long (aL (pF tp p).2))) := by
  have h1 := pN_le (tp := tp) hp
  have hn : ∀ v, (pN tp p).2 = some v → v < 2147483648 := fun v e => by have := h1.2 v e; omega
  have nn : ∀ v, v < 2147483648 → ((0 : Int32) ≤ oI (some v) ↔ True) := fun v h => nI_ge0S h
  have n0 : ((0 : Int32) ≤ oI none) ↔ False := ⟨fun z => absurd z (by decide), fun z => z.elim⟩
  have oIs : ∀ a : Nat, oI (some a) = nI a := fun _ => rfl
  rw [em_X10_takeAmount]
  unfold pF
  simp (disch := omega) only [g_X10_takeAmount_0, g_X10_takeAmount_1, g_X10_takeAmount_4, g_X10_takeAmount_5, g_X10_takeAmount_6, lk_X10_takeAmount, XI, Nat.reduceAdd, Nat.reduceEqDiff, not_false_eq_true, nI_T1, nI_T0, true_and, and_true, WC, WV, WU, c_number P n s I J R _ _ hT hp]
  cases e1 : (pN tp p).2 with
  | none =>
    simp (disch := omega) only [g_X10_takeAmount_9, g_X10_takeAmount_12, lk_X10_takeAmount, XI, Nat.reduceAdd, Nat.reduceEqDiff, not_false_eq_true, nI_T1, nI_T0, true_and, and_true, WC, WV, WU, n0, if_false]
    exact Iff.rfl
  | some u =>
    have hu := h1.2 u e1
    simp (disch := omega) only [g_X10_takeAmount_13, g_X10_takeAmount_14, g_X10_takeAmount_16, g_X10_takeAmount_19, lk_X10_takeAmount, XI, Nat.reduceAdd, Nat.reduceEqDiff, not_false_eq_true, nI_T1, nI_T0, true_and, and_true, WC, WV, WU, oIs, nI_ge0S, if_true, c_take P n s I J R _ _ hT (show 47 ≤ 127 by decide) h1.1, rs_b_0]
    by_cases c : tp[(pN tp p).1]? = some 47
    · have h2 := pN_le (tp := tp) (p := (pN tp p).1 + 1) (lt_of_get c)
      simp (disch := omega) only [c, not_true_eq_false, if_true, if_false, g_X10_takeAmount_22, g_X10_takeAmount_23, g_X10_takeAmount_26, g_X10_takeAmount_29, g_X10_takeAmount_30, g_X10_takeAmount_31, g_X10_takeAmount_32, lk_X10_takeAmount, XI, Nat.reduceAdd, Nat.reduceEqDiff, not_false_eq_true, nI_T1, nI_T0, true_and, and_true, WC, WV, WU, c_number P n s I J R _ _ hT (lt_of_get c)]
      cases e2 : (pN tp ((pN tp p).1 + 1)).2 with
      | none =>
        simp (disch := omega) only [g_X10_takeAmount_35, g_X10_takeAmount_38, g_X10_takeAmount_41, g_X10_takeAmount_42, g_X10_takeAmount_43, g_X10_takeAmount_44, g_X10_takeAmount_45, g_X10_takeAmount_48, lk_X10_takeAmount, XI, Nat.reduceAdd, Nat.reduceEqDiff, not_false_eq_true, nI_T1, nI_T0, true_and, and_true, WC, WV, WU, n0, if_false]
        exact Iff.rfl
      | some v =>
        have hv := h2.2 v e2
        have hl := lw_fr (f := (u, v)) ⟨hu.1, hu.2, hv.1, hv.2⟩
        have hl1 : fr u v = some (lw (u, v)) := hl.1
        simp (disch := omega) only [g_X10_takeAmount_41, g_X10_takeAmount_42, g_X10_takeAmount_43, g_X10_takeAmount_44, g_X10_takeAmount_45, g_X10_takeAmount_48, lk_X10_takeAmount, XI, Nat.reduceAdd, Nat.reduceEqDiff, not_false_eq_true, nI_T1, nI_T0, true_and, and_true, WC, WV, WU, nI_ge0S, if_true, oIs, nI_long (show u ≤ 1000000000 by omega), nI_long (show v ≤ 1000000000 by omega), s_X0_of _ _ _ (show u < 2 ^ 63 by omega) hv.1 (show v ≤ 1000000000000000000 by omega), hl1, pkO_s]
        exact Iff.rfl
    · have hl := lw_fr (f := (u, 1)) ⟨hu.1, hu.2, Nat.le_refl 1, show 1 ≤ 999 by decide⟩
      have hl1 : fr u 1 = some (lw (u, 1)) := hl.1
      simp (disch := omega) only [c, not_false_eq_true, if_true, if_false, g_X10_takeAmount_29, g_X10_takeAmount_30, g_X10_takeAmount_31, g_X10_takeAmount_32, g_X10_takeAmount_35, g_X10_takeAmount_38, g_X10_takeAmount_41, g_X10_takeAmount_42, g_X10_takeAmount_43, g_X10_takeAmount_44, g_X10_takeAmount_45, g_X10_takeAmount_48, lk_X10_takeAmount, XI, Nat.reduceAdd, Nat.reduceEqDiff, not_false_eq_true, nI_T1, nI_T0, true_and, and_true, WC, WV, WU, nI_ge0S, oIs, nI_long (show u ≤ 1000000000 by omega), nI_long (show 1 ≤ 1000000000 by decide), s_X0_of _ _ _ (show u < 2 ^ 63 by omega) (Nat.le_refl 1) (show 1 ≤ 1000000000000000000 by decide), hl1, pkO_s]
      exact Iff.rfl
theorem c_unit (hT : TC I tp) {p : Nat} (hp : p ≤ tp.length) : rs_XM (d + 2) yX10_takeUnit [.ref 43] (sk_w P n s (rs_u2 I 43 2 (nI p)) J R) Q ↔ Q (sk_w P n s (rs_u2 I 43 2 (nI (pUn tp p).1)) J R) (some (.int (oI (pUn tp p).2))) := by
  rw [em_X10_takeUnit]
  unfold pUn
  simp (disch := omega) only [g_X10_takeUnit_0, g_X10_takeUnit_1, g_X10_takeUnit_3, g_X10_takeUnit_6, lk_X10_takeUnit, XI, Nat.reduceAdd, Nat.reduceEqDiff, not_false_eq_true, nI_T1, nI_T0, true_and, and_true, WC, WV, WU, c_take P n s I J R _ _ hT (show 103 ≤ 127 by decide) hp, rs_b_0]
  by_cases c1 : tp[p]? = some 103
  · simp (disch := omega) only [c1, not_true_eq_false, if_true, if_false, g_X10_takeUnit_9, g_X10_takeUnit_10, lk_X10_takeUnit, XI, Nat.reduceAdd, Nat.reduceEqDiff, not_false_eq_true, nI_T1, nI_T0, true_and, and_true, WC, WV, WU]
    exact Iff.rfl
  · simp (disch := omega) only [c1, not_false_eq_true, if_true, if_false, g_X10_takeUnit_11, g_X10_takeUnit_12, g_X10_takeUnit_14, g_X10_takeUnit_17, lk_X10_takeUnit, XI, Nat.reduceAdd, Nat.reduceEqDiff, not_false_eq_true, nI_T1, nI_T0, true_and, and_true, WC, WV, WU, c_take P n s I J R _ _ hT (show 109 ≤ 127 by decide) hp, rs_b_0]
    by_cases c2 : tp[p]? = some 109
    · simp (disch := omega) only [c2, not_true_eq_false, if_true, if_false, g_X10_takeUnit_20, g_X10_takeUnit_21, lk_X10_takeUnit, XI, Nat.reduceAdd, Nat.reduceEqDiff, not_false_eq_true, nI_T1, nI_T0, true_and, and_true, WC, WV, WU]
      exact Iff.rfl
    · simp (disch := omega) only [c2, not_false_eq_true, if_true, if_false, g_X10_takeUnit_22, g_X10_takeUnit_23, g_X10_takeUnit_25, g_X10_takeUnit_28, lk_X10_takeUnit, XI, Nat.reduceAdd, Nat.reduceEqDiff, not_false_eq_true, nI_T1, nI_T0, true_and, and_true, WC, WV, WU, c_take P n s I J R _ _ hT (show 112 ≤ 127 by decide) hp, rs_b_0]
      by_cases c3 : tp[p]? = some 112
      · simp (disch := omega) only [c3, not_true_eq_false, if_true, if_false, g_X10_takeUnit_31, g_X10_takeUnit_32, g_X10_takeUnit_35, g_X10_takeUnit_36, lk_X10_takeUnit, XI, Nat.reduceAdd, Nat.reduceEqDiff, not_false_eq_true, nI_T1, nI_T0, true_and, and_true, WC, WV, WU]
        exact Iff.rfl
      · simp (disch := omega) only [c3, not_false_eq_true, if_true, if_false, g_X10_takeUnit_31, g_X10_takeUnit_32, g_X10_takeUnit_35, g_X10_takeUnit_36, lk_X10_takeUnit, XI, Nat.reduceAdd, Nat.reduceEqDiff, not_false_eq_true, nI_T1, nI_T0, true_and, and_true, WC, WV, WU]
        exact Iff.rfl
theorem c_source (hT : TC I tp) {p : Nat} (hp : p ≤ tp.length) : rs_XM (d + 2) yX10_takeSource [.ref 43] (sk_w P n s (rs_u2 I 43 2 (nI p)) J R) Q ↔ Q (sk_w P n s (rs_u2 I 43 2 (nI (pSo tp p).1)) J R) (some (.int (oI (pSo tp p).2))) := by
  have nn : ∀ v, v < 2147483648 → ((0 : Int32) ≤ oI (some v) ↔ True) := fun v h => nI_ge0S h
  have n0 : ((0 : Int32) ≤ oI none) ↔ False := ⟨fun z => absurd z (by decide), fun z => z.elim⟩
  have m0 : (oI none < (0 : Int32)) ↔ True := ⟨fun _ => trivial, fun _ => by decide⟩
  have mm : ∀ v, v < 2147483648 → (oI (some v) < (0 : Int32) ↔ False) := fun v h => nI_lt0S h
  have oIs : ∀ a : Nat, oI (some a) = nI a := fun _ => rfl
  rw [em_X10_takeSource]
  unfold pSo
  simp (disch := omega) only [g_X10_takeSource_0, g_X10_takeSource_1, g_X10_takeSource_3, g_X10_takeSource_5, g_X10_takeSource_8, g_X10_takeSource_9, g_X10_takeSource_10, lk_X10_takeSource, XI, Nat.reduceAdd, Nat.reduceEqDiff, not_false_eq_true, nI_T1, nI_T0, true_and, and_true, WC, WV, WU, c_between P n s I J R _ _ hT (show 97 ≤ 108 by decide) (show 108 ≤ 127 by decide) hp]
  cases h1 : pB tp 97 108 p with
  | some a =>
    have a1 := pB_s h1
    simp (disch := omega) only [g_X10_takeSource_13, g_X10_takeSource_14, lk_X10_takeSource, XI, Nat.reduceAdd, Nat.reduceEqDiff, not_false_eq_true, nI_T1, nI_T0, true_and, and_true, WC, WV, WU, nI_lt0S, oIs, stp_s, if_false]
  | none =>
    simp (disch := omega) only [g_X10_takeSource_15, g_X10_takeSource_16, g_X10_takeSource_18, g_X10_takeSource_20, g_X10_takeSource_23, g_X10_takeSource_24, g_X10_takeSource_25, lk_X10_takeSource, XI, Nat.reduceAdd, Nat.reduceEqDiff, not_false_eq_true, nI_T1, nI_T0, true_and, and_true, WC, WV, WU, m0, stp_n, if_true, c_between P n s I J R _ _ hT (show 48 ≤ 55 by decide) (show 55 ≤ 127 by decide) hp]
    cases h2 : pB tp 48 55 p with
    | some a =>
      have a1 := pB_s h2
      simp (disch := omega) only [g_X10_takeSource_32, g_X10_takeSource_34, g_X10_takeSource_35, g_X10_takeSource_36, lk_X10_takeSource, XI, Nat.reduceAdd, Nat.reduceEqDiff, not_false_eq_true, nI_T1, nI_T0, true_and, and_true, WC, WV, WU, nI_ge0S, stp_s, if_true, oIs, nI_addS]
    | none =>
      simp (disch := omega) only [g_X10_takeSource_28, g_X10_takeSource_29, g_X10_takeSource_32, g_X10_takeSource_34, g_X10_takeSource_35, g_X10_takeSource_36, lk_X10_takeSource, XI, Nat.reduceAdd, Nat.reduceEqDiff, not_false_eq_true, nI_T1, nI_T0, true_and, and_true, WC, WV, WU, n0, stp_n, if_false]
      exact Iff.rfl
end
