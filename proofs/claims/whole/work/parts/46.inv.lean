/-! what both sides hold between two calls: each side's own half of the world -/
def SOk (D : Dt) (Ds : Option Dt) (L : List Dt) (tp : List Nat) : Prop := D.ok ∧ (∀ X, Ds = some X → X.ok) ∧ L.length ≤ 8 ∧ (∀ (k : Nat) (X : Dt), L[k]? = some X → X.ok) ∧ tp.length ≤ 60 ∧ ∀ (k v : Nat), tp[k]? = some v → v ≤ 127
def cSnap (P : Nat → Option rs_C) (b : Nat) (o : Option Nat) (Ds : Option Dt) : Prop := match Ds with
  | none => o = none
  | some X => ∃ q, o = some q ∧ cSt P b q X
def CI (P : Nat → Option rs_C) (n : Nat) (I : Nat → Nat → Int32) (R : Nat → Nat → Option Nat) (D : Dt) (Ds : Option Dt) (L : List Dt) (tp : List Nat) (rea : Int32) : Prop := 84 ≤ n ∧ (∃ q, R 1 0 = some q ∧ cSt P n q D) ∧ cSnap P n (R 1 1) Ds ∧ I 1 3 = nI L.length ∧ (∀ (k : Nat) (X : Dt), L[k]? = some X → ∃ q, R 42 k = some q ∧ cSt P n q X) ∧ I 1 4 = rea ∧ I 43 1 = nI tp.length ∧ ∀ (k v : Nat), tp[k]? = some v → I 44 k = nI v
def rSnap (I : Nat → Nat → Int32) (Ds : Option Dt) : Prop := match Ds with
  | none => I 61 2 = nI 0
  | some X => I 61 2 = nI 1 ∧ mDt (I 63) X
def rInv (a b c : Int32) : Prop := b = -1 ∨ ∃ x y z, a = nI x ∧ b = nI y ∧ c = nI z ∧ 1 ≤ y ∧ y ≤ 2000 ∧ x < 2001 ∧ z < 2001 ∧ (y = 1 → z = 0) ∧ (1 < y → z * x % y = 1 ∧ z < y)
def RI (I : Nat → Nat → Int32) (D : Dt) (Ds : Option Dt) (L : List Dt) (tp : List Nat) (rea : Int32) : Prop := mDt (I 62) D ∧ rSnap I Ds ∧ I 61 4 = nI L.length ∧ (∀ (k : Nat) (X : Dt), L[k]? = some X → mDt (fun j => I 64 (448 * k + j)) X) ∧ I 61 5 = rea ∧ I 61 9 = nI tp.length ∧ (∀ (k v : Nat), tp[k]? = some v → I 65 k = nI v) ∧ rInv (I 61 32) (I 61 33) (I 61 34)
def fC {α : Type} (I I' : Nat → Nat → α) : Prop := ∀ q j, 61 ≤ q → I' q j = I q j
def fR {α : Type} (I I' : Nat → Nat → α) : Prop := ∀ q j, q < 61 → I' q j = I q j
theorem fC_r {α : Type} (I : Nat → Nat → α) : fC I I := fun _ _ _ => rfl
theorem fR_r {α : Type} (I : Nat → Nat → α) : fR I I := fun _ _ _ => rfl
theorem fC_t {α : Type} {I I' I2 : Nat → Nat → α} (h : fC I I') (h2 : fC I' I2) : fC I I2 := fun q j a => (h2 q j a).trans (h q j a)
theorem fR_t {α : Type} {I I' I2 : Nat → Nat → α} (h : fR I I') (h2 : fR I' I2) : fR I I2 := fun q j a => (h2 q j a).trans (h q j a)
theorem fC_u {α : Type} {I I' : Nat → Nat → α} (h : fC I I') {a i : Nat} {v : α} (ha : a < 61) : fC I (rs_u2 I' a i v) := fun q j e => by rw [rs_u2_ne _ _ (by omega)]; exact h q j e
theorem fR_u {α : Type} {I I' : Nat → Nat → α} (h : fR I I') {a i : Nat} {v : α} (ha : 61 ≤ a) : fR I (rs_u2 I' a i v) := fun q j e => by rw [rs_u2_ne _ _ (by omega)]; exact h q j e
theorem fC_cp {α : Type} {I I' : Nat → Nat → α} (h : fC I I') {a lo hi : Nat} {f : Nat → α} (ha : a < 61) : fC I (cpU I' a lo hi f) := fun q j e => by rw [cpU_ne _ _ _ _ _ _ (by omega)]; exact h q j e
theorem fR_cp {α : Type} {I I' : Nat → Nat → α} (h : fR I I') {a lo hi : Nat} {f : Nat → α} (ha : 61 ≤ a) : fR I (cpU I' a lo hi f) := fun q j e => by rw [cpU_ne _ _ _ _ _ _ (by omega)]; exact h q j e
theorem fC_jS {J J' : Nat → Nat → Int64} (h : fC J J') {a m : Nat} {S : Nat → Nat × Nat} (ha : a < 61) : fC J (jS J' a m S) := fC_cp h ha
theorem hI_R {I I' : Nat → Nat → Int32} (h : hI I I') : fR I I' := fun q j a => h q j (by omega) (by omega) (by omega) (by omega)
theorem hJ_R {I I' : Nat → Nat → Int64} (h : hJ I I') : fR I I' := fun q j a => h q j (by omega) (by omega) (by omega) (by omega) (by omega) (by omega) (by omega) (by omega) (by omega)
theorem RI_f {I I' : Nat → Nat → Int32} {D : Dt} {Ds : Option Dt} {L : List Dt} {tp : List Nat} {rea : Int32} (h : RI I D Ds L tp rea) (h2 : ∀ j, I' 62 j = I 62 j) (h3 : ∀ j, I' 63 j = I 63 j) (h4 : ∀ j, I' 64 j = I 64 j) (h5 : ∀ j, I' 65 j = I 65 j) (h1 : ∀ j, j = 2 ∨ j = 4 ∨ j = 9 ∨ j = 32 ∨ j = 33 ∨ j = 34 → I' 61 j = I 61 j) {rea' : Int32} (hr : I' 61 5 = rea') : RI I' D Ds L tp rea' := by
  obtain ⟨a1, a2, a3, a4, a5, a6, a7, a8⟩ := h
  have e62 : I' 62 = I 62 := funext h2
  have e63 : I' 63 = I 63 := funext h3
  refine ⟨by rw [e62]; exact a1, ?_, by rw [h1 4 (by omega)]; exact a3, ?_, hr, by rw [h1 9 (by omega)]; exact a6, fun k v e => by rw [h5]; exact a7 k v e, by rw [h1 32 (by omega), h1 33 (by omega), h1 34 (by omega)]; exact a8⟩
  · unfold rSnap at a2 ⊢
    cases Ds with
    | none => rw [h1 2 (by omega)]; exact a2
    | some X => rw [h1 2 (by omega), e63]; exact a2
  · intro k X e
    have e64 : (fun j => I' 64 (448 * k + j)) = fun j => I 64 (448 * k + j) := funext fun j => h4 _
    rw [e64]
    exact a4 k X e
theorem RI_C {I I' : Nat → Nat → Int32} {D : Dt} {Ds : Option Dt} {L : List Dt} {tp : List Nat} {rea : Int32} (h : RI I D Ds L tp rea) (hf : fC I I') : RI I' D Ds L tp rea :=
  RI_f h (fun j => hf 62 j (by decide)) (fun j => hf 63 j (by decide)) (fun j => hf 64 j (by decide)) (fun j => hf 65 j (by decide)) (fun j _ => hf 61 j (by decide)) (by rw [hf 61 5 (by decide)]; exact h.2.2.2.2.1)
theorem RI_h {I I' : Nat → Nat → Int32} {D : Dt} {Ds : Option Dt} {L : List Dt} {tp : List Nat} {rea : Int32} (h : RI I D Ds L tp rea) (hf : hI I I') {rea' : Int32} (hr : I' 61 5 = rea') : RI I' D Ds L tp rea' :=
  RI_f h (fun j => hf 62 j (by omega) (by decide) (by decide) (by decide)) (fun j => hf 63 j (by omega) (by decide) (by decide) (by decide)) (fun j => hf 64 j (by omega) (by decide) (by decide) (by decide)) (fun j => hf 65 j (by omega) (by decide) (by decide) (by decide)) (fun j e => hf 61 j (by omega) (by decide) (by decide) (by decide)) hr
theorem CI_f {P : Nat → Option rs_C} {n : Nat} {I I' : Nat → Nat → Int32} {R : Nat → Nat → Option Nat} {D : Dt} {Ds : Option Dt} {L : List Dt} {tp : List Nat} {rea : Int32} (h : CI P n I R D Ds L tp rea) (h1 : I' 1 3 = I 1 3) (h2 : I' 43 1 = I 43 1) (h3 : ∀ j, I' 44 j = I 44 j) {rea' : Int32} (hr : I' 1 4 = rea') : CI P n I' R D Ds L tp rea' := by
  obtain ⟨a1, a2, a3, a4, a5, a6, a7, a8⟩ := h
  exact ⟨a1, a2, a3, by rw [h1]; exact a4, a5, hr, by rw [h2]; exact a7, fun k v e => by rw [h3]; exact a8 k v e⟩
theorem CI_R {P : Nat → Option rs_C} {n : Nat} {I I' : Nat → Nat → Int32} {R : Nat → Nat → Option Nat} {D : Dt} {Ds : Option Dt} {L : List Dt} {tp : List Nat} {rea : Int32} (h : CI P n I R D Ds L tp rea) (hf : fR I I') : CI P n I' R D Ds L tp rea :=
  CI_f h (hf 1 3 (by decide)) (hf 43 1 (by decide)) (fun j => hf 44 j (by decide)) (by rw [hf 1 4 (by decide)]; exact h.2.2.2.2.2.1)
/-- a call of the class: what it comes to -/
def CC (y : MethodName) (as : List Value) (D : Dt) (Ds : Option Dt) (L : List Dt) (tp : List Nat) (rea : Int32) (D' : Dt) (Ds' : Option Dt) (L' : List Dt) (tp' : List Nat) (rea' : Int32) (v : Value) : Prop := ∀ (d : Nat) (P : Nat → Option rs_C) (n s : Nat) (I : Nat → Nat → Int32) (J : Nat → Nat → Int64) (R : Nat → Nat → Option Nat) (Q : rs_H → Option Value → Prop), CI P n I R D Ds L tp rea →
  (∀ P' n' s' I' J' R', CI P' n' I' R' D' Ds' L' tp' rea' → fC I I' → fC J J' → n' ≤ n + 100 → s' ≤ s + 1000 → Q (sk_w P' n' s' I' J' R') (some v)) → rs_XM (d + 60) y (.ref 1 :: as) (sk_w P n s I J R) Q
/-- a call of the reference -/
def RC (y : MethodName) (as : List Value) (D : Dt) (Ds : Option Dt) (L : List Dt) (tp : List Nat) (rea : Int32) (D' : Dt) (Ds' : Option Dt) (L' : List Dt) (tp' : List Nat) (rea' : Int32) (v : Value) : Prop := ∀ (d : Nat) (P : Nat → Option rs_C) (n s : Nat) (I : Nat → Nat → Int32) (J : Nat → Nat → Int64) (R : Nat → Nat → Option Nat) (Q : rs_H → Option Value → Prop), (I 61 8 = nI 0 ∨ I 61 8 = nI 1) → RI I D Ds L tp rea →
  (∀ I' J', RI I' D' Ds' L' tp' rea' → fR I I' → fR J J' → Q (sk_w P n s I' J' R) (some v)) → rs_XM (d + 60) y (.ref 61 :: as) (sk_w P n s I J R) Q
/-- both answer alike, and hold alike afterwards -/
def BC (y z : MethodName) (as : List Value) (D : Dt) (Ds : Option Dt) (L : List Dt) (tp : List Nat) (rea : Int32) : Prop := ∃ D' Ds' L' tp' rea' v, SOk D' Ds' L' tp' ∧ CC y as D Ds L tp rea D' Ds' L' tp' rea' v ∧ RC z as D Ds L tp rea D' Ds' L' tp' rea' v ∧ ((∃ x, v = .int x) ∨ ∃ x, v = .long x)
/-! the plan's needs, under a name -/
def plD (D : Dt) : Nat × (Nat × Nat) := D.pl.getD (0, (0, 1))
def befD (D : Dt) : Nat → Nat × Nat := (fnd D (plD D).1 (plD D).2).2.1
def aftD (D : Dt) : Nat → Nat × Nat := (rpl D (befD D)).2.1
def takD (D : Dt) : Nat → Nat × Nat := (rpl D (befD D)).2.2.1
def appD (D : Dt) : Nat := (rpl D (befD D)).2.2.2
/-- 7 where there is no plan -/
def whyD (D : Dt) : Nat := match D.pl with
  | none => 7
  | some p => whyP D p
def reaD (D : Dt) (rea : Int32) : Int32 := if whyD D = 0 ∨ whyD D = 7 then rea else nI (whyD D)
theorem reaD_0 {D : Dt} {rea : Int32} (h : whyD D = 0) : reaD D rea = rea := if_pos (Or.inl h)
theorem plD_s {D : Dt} {p : Nat × (Nat × Nat)} (h : D.pl = some p) : plD D = p := by unfold plD; rw [h]; rfl
theorem whyD_s {D : Dt} {p : Nat × (Nat × Nat)} (h : D.pl = some p) : whyD D = whyP D p := by unfold whyD; rw [h]
theorem whyD_n {D : Dt} (h : D.pl = none) : whyD D = 7 := by unfold whyD; rw [h]
theorem reaD_s {D : Dt} (hD : D.ok) {p : Nat × (Nat × Nat)} (h : D.pl = some p) (rea : Int32) : reaD D rea = if whyP D p = 0 then rea else nI (whyP D p) := by
  have := whyP_le hD (hD.2.2.2.2 p.1 p.2 h).2.1
  unfold reaD
  rw [whyD_s h]
  by_cases e : whyP D p = 0
  · rw [if_pos (Or.inl e), if_pos e]
  · rw [if_neg (by omega), if_neg e]
theorem reaD_n {D : Dt} (h : D.pl = none) (rea : Int32) : reaD D rea = rea := by
  unfold reaD
  rw [whyD_n h, if_pos (Or.inr rfl)]
theorem befD_ok {D : Dt} (hD : D.ok) : stOk (befD D) := by
  unfold befD
  have hp : isF (plD D).2 := by
    unfold plD
    cases h : D.pl with
    | none => exact isF_01
    | some p => exact (hD.2.2.2.2 p.1 p.2 h).2.1
  exact (fnd_ok hD _ hp).2.1
theorem aftD_ok {D : Dt} (hD : D.ok) : stOk (aftD D) := (rpl_ok hD (befD_ok hD)).1
section
variable (P : Nat → Option rs_C) (n s : Nat) (I : Nat → Nat → Int32) (J : Nat → Nat → Int64) (R : Nat → Nat → Option Nat) (d : Nat) (Q : rs_H → Option Value → Prop)
theorem c_findPlan {D : Dt} {Ds : Option Dt} {L : List Dt} {tp : List Nat} {rea : Int32} (hD : D.ok) (h : CI P n I R D Ds L tp rea) (hQ : ∀ I' J', CI P n I' R D Ds L tp (reaD D rea) → fC I I' → fC J J' → (whyD D = 0 → (∀ i, i < 12 → J' 47 i = pkF (befD D i)) ∧ (∀ i, i < 12 → J' 49 i = pkF (aftD D i)) ∧ (∀ i, i < 6 → J' 53 i = pkF (takD D i)) ∧ I' 45 5 = nI (appD D)) → Q (sk_w P n s I' J' R) (some (.int (rs_b (whyD D = 0))))) : rs_XM (d + 23) yX11_findPlan [.ref 1] (sk_w P n s I J R) Q := by
  obtain ⟨q, hR, hq⟩ := h.2.1
  have h4 := h.2.2.2.2.2.1
  cases hp : D.pl with
  | none =>
    have w7 := whyD_n hp
    rw [s_findPlan_n P n s I J R d Q hq hR hp]
    rw [rs_b_f (show ¬ whyD D = 0 by omega), reaD_n hp] at hQ
    exact hQ I J h (fC_r I) (fC_r J) (fun z => by omega)
  | some p =>
    rw [reaD_s hD hp, whyD_s hp] at hQ
    have eb : befD D = (fnd D p.1 p.2).2.1 := by unfold befD; rw [plD_s hp]
    unfold takD appD aftD at hQ
    rw [eb] at hQ
    by_cases h0 : (fnd D p.1 p.2).1 = 0
    · by_cases h1 : (rpl D (fnd D p.1 p.2).2.1).1 = 0
      · have hw : whyP D p = 0 := by unfold whyP; rw [if_pos h0]; exact h1
        rw [s_findPlan_3 P n s I J R d Q hq hD hR hp h0 h1]
        rw [rs_b_t hw, if_pos hw] at hQ
        refine hQ _ _ (CI_f h ?_ ?_ ?_ ?_) ?_ ?_ (fun _ => ⟨?_, ?_, ?_, ?_⟩)
        · rw [rs_u2_ne _ _ (by omega), rs_u2_ne _ _ (by omega)]
        · rw [rs_u2_ne _ _ (by omega), rs_u2_ne _ _ (by omega)]
        · intro j; rw [rs_u2_ne _ _ (by omega), rs_u2_ne _ _ (by omega)]
        · rw [rs_u2_ne _ _ (by omega), rs_u2_ne _ _ (by omega)]; exact h4
        · exact fC_u (fC_u (fC_r I) (by decide)) (by decide)
        · exact fC_jS (fC_jS (fC_jS (fC_r J) (by decide)) (by decide)) (by decide)
        · intro i hi; rw [jS_ne _ _ _ _ _ (by decide), jS_ne _ _ _ _ _ (by decide), jS_at _ _ _ _ hi]
        · intro i hi; rw [jS_ne _ _ _ _ _ (by decide), jS_at _ _ _ _ hi]
        · intro i hi; rw [jS_at _ _ _ _ hi]
        · rw [rs_u2_eq]
      · have hw : whyP D p = (rpl D (fnd D p.1 p.2).2.1).1 := by unfold whyP; rw [if_pos h0]
        rw [s_findPlan_2 P n s I J R d Q hq hD hR hp h0 h1]
        rw [rs_b_f (by rw [hw]; exact h1), if_neg (by rw [hw]; exact h1), hw] at hQ
        refine hQ _ _ (CI_f h ?_ ?_ ?_ ?_) ?_ ?_ (fun z => absurd z h1)
        · rw [rs_u2_ne _ _ (by omega), rs_u2_ne _ _ (by omega), rs_u2_ne _ _ (by omega)]
        · rw [rs_u2_ne _ _ (by omega), rs_u2_ne _ _ (by omega), rs_u2_ne _ _ (by omega)]
        · intro j; rw [rs_u2_ne _ _ (by omega), rs_u2_ne _ _ (by omega), rs_u2_ne _ _ (by omega)]
        · rw [rs_u2_eq]
        · exact fC_u (fC_u (fC_u (fC_r I) (by decide)) (by decide)) (by decide)
        · exact fC_jS (fC_jS (fC_jS (fC_r J) (by decide)) (by decide)) (by decide)
    · have hw : whyP D p = (fnd D p.1 p.2).1 := by unfold whyP; rw [if_neg h0]
      rw [s_findPlan_1 P n s I J R d Q hq hD hR hp h0]
      rw [rs_b_f (by rw [hw]; exact h0), if_neg (by rw [hw]; exact h0), hw] at hQ
      refine hQ _ _ (CI_f h ?_ ?_ ?_ ?_) ?_ ?_ (fun z => absurd z h0)
      · rw [rs_u2_ne _ _ (by omega), rs_u2_ne _ _ (by omega)]
      · rw [rs_u2_ne _ _ (by omega), rs_u2_ne _ _ (by omega)]
      · intro j; rw [rs_u2_ne _ _ (by omega), rs_u2_ne _ _ (by omega)]
      · rw [rs_u2_eq]
      · exact fC_u (fC_u (fC_r I) (by decide)) (by decide)
      · exact fC_jS (fC_r J) (by decide)
theorem r_hasPlan {D : Dt} (hM : mDt (I 62) D) (hD : D.ok) : rs_XM d yX12_hasPlan [.ref 61] (sk_w P n s I J R) Q ↔ Q (sk_w P n s I J R) (some (.int (rs_b (¬ D.pl = none)))) := by
  have h := hM.2.2.2.2
  rw [s_X12_hasPlan]
  cases hp : D.pl with
  | none =>
    rw [hp] at h
    have e : I 62 445 = -1 := h
    rw [rs_b_f (show ¬ (0 ≤ I 62 445) by rw [e]; decide), rs_b_f (fun z => z rfl)]
  | some p =>
    rw [hp] at h
    have e : I 62 445 = nI p.1 := h.1
    have p8 := (hD.2.2.2.2 p.1 p.2 hp).1
    rw [rs_b_t (by rw [e, nI_ge0S (by omega)]; trivial), rs_b_t (by intro z; cases z)]
theorem r_isFound {D : Dt} {Ds : Option Dt} {L : List Dt} {tp : List Nat} {rea : Int32} (hD : D.ok) (h : RI I D Ds L tp rea) (hp : ¬ D.pl = none) (hQ : ∀ I' J', RI I' D Ds L tp (reaD D rea) → fR I I' → fR J J' → (whyD D = 0 → mS J' 76 77 12 (befD D) ∧ mS J' 67 68 12 (aftD D) ∧ I' 61 8 = nI 0 ∧ mTA I' J' D.sb.length (takD D) (appD D)) → Q (sk_w P n s I' J' R) (some (.int (rs_b (whyD D = 0))))) : rs_XM (d + 5) yX12_isFound [.ref 61] (sk_w P n s I J R) Q := by
  cases hp2 : D.pl with
  | none => exact absurd hp2 hp
  | some p =>
    rw [reaD_s hD hp2, whyD_s hp2] at hQ
    have eb : befD D = (fnd D p.1 p.2).2.1 := by unfold befD; rw [plD_s hp2]
    unfold takD appD aftD at hQ
    rw [eb] at hQ
    refine s_isFound P n s R d h.1 hD hp2 ?_
    intro I' J' hi hj h5 hz
    refine hQ I' J' (RI_h h hi ?_) (hI_R hi) (hJ_R hj) hz
    rw [h5, h.2.2.2.2.1]
end
