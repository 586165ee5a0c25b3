/-! needs found again: the recipes that wait, the next of them, the sums -/
def gd (D : Dt) : Nat → Nat → Prop
  | 0, _ => False
  | m + 1, r => ∃ Z, D.rc r = some Z ∧ ∀ t, t ∈ Z.its → (t.so < 12 → ¬ (D.ig t.so).gr t.un = none) ∧ (12 ≤ t.so → gd D m (t.so - 12))
theorem gd_s (D : Dt) (m r : Nat) : gd D (m + 1) r ↔ ∃ Z, D.rc r = some Z ∧ ∀ t, t ∈ Z.its → (t.so < 12 → ¬ (D.ig t.so).gr t.un = none) ∧ (12 ≤ t.so → gd D m (t.so - 12)) := Iff.rfl
theorem gd_up (D : Dt) : ∀ m r, gd D m r → gd D (m + 1) r
  | 0, r, h => h.elim
  | m + 1, r, h => by
    obtain ⟨Z, hz, ht⟩ := (gd_s D m r).mp h
    exact (gd_s D (m + 1) r).mpr ⟨Z, hz, fun t hm => ⟨(ht t hm).1, fun e => gd_up D m _ ((ht t hm).2 e)⟩⟩
theorem wkL_all (D : Dt) (inner : Nat → Rc → Nat × Nat → ((Nat → Nat × Nat) × Nat) → Nat × ((Nat → Nat × Nat) × Nat)) (op : Nat) (f : Nat × Nat) : ∀ (l : List It) (S : Nat → Nat × Nat) (c : Nat), (wkL D inner op f l (S, c)).1 = 0 → ∀ t, t ∈ l → ∃ z, (wkB D inner op f t z).1 = 0
  | [], S, c, h, t, ht => absurd ht List.not_mem_nil
  | u :: us, S, c, h, t, ht => by
    by_cases hc : 300 < c + 1
    · rw [wkL_o _ _ _ _ _ _ _ hc] at h
      cases h
    · rw [wkL_c _ _ _ _ _ _ _ (by omega)] at h
      by_cases e : (wkB D inner op f u (S, c + 1)).1 = 0
      · rw [if_pos e] at h
        rcases List.mem_cons.mp ht with q | q
        · exact ⟨_, by rw [q]; exact e⟩
        · exact wkL_all D inner op f us _ _ h t q
      · rw [if_neg e] at h
        exact absurd h e
theorem wk_gd (D : Dt) : ∀ (m op r : Nat) (Z : Rc) (f : Nat × Nat) (S : Nat → Nat × Nat) (c : Nat), D.rc r = some Z → (wk D m op Z f (S, c)).1 = 0 → gd D m r
  | 0, op, r, Z, f, S, c, hz, h => by cases h
  | m + 1, op, r, Z, f, S, c, hz, h => by
    refine (gd_s D m r).mpr ⟨Z, hz, fun t ht => ?_⟩
    obtain ⟨z, hb⟩ := wkL_all D _ op f Z.its S c h t ht
    unfold wkB at hb
    constructor
    · intro e hg
      rw [if_neg (by omega)] at hb
      unfold adI at hb
      rw [hg] at hb
      cases hb
    · intro e
      rw [if_pos e] at hb
      unfold wkA at hb
      cases hy : D.rc (t.so - 12) with
      | none => rw [hy] at hb; cases hb
      | some Y =>
        rw [hy] at hb
        dsimp only at hb
        by_cases h1 : op.testBit (t.so - 12) = true
        · rw [if_pos h1] at hb; cases hb
        · rw [if_neg h1] at hb
          by_cases h2 : ¬ Y.un = t.un
          · rw [if_pos h2] at hb; cases hb
          · rw [if_neg h2] at hb
            cases hf : fOf t f Y with
            | none => rw [hf] at hb; cases hb
            | some f2 =>
              rw [hf] at hb
              exact wk_gd D m _ _ Y f2 z.1 z.2 hy hb
theorem fnd_gd {D : Dt} {r : Nat} {f : Nat × Nat} (h : (fnd D r f).1 = 0) : gd D 8 r := by
  unfold fnd at h
  cases hz : D.rc r with
  | none => rw [hz] at h; cases h
  | some Z =>
    rw [hz] at h
    exact wk_gd D 8 _ r Z f _ _ hz h
/-- what a recipe holds directly -/
theorem dK_bit (l : List It) : ∀ k c, (dK l k).testBit c = true → ∃ t, t ∈ l ∧ 12 ≤ t.so ∧ t.so - 12 = c
  | 0, c, h => by
    have h : (0 : Nat).testBit c = true := h
    rw [Nat.zero_testBit] at h
    cases h
  | k + 1, c, h => by
    rw [dK_s] at h
    cases hs : l[k]? with
    | none => rw [hs] at h; exact dK_bit l k c h
    | some t =>
      rw [hs] at h
      dsimp only at h
      by_cases e : 12 ≤ t.so
      · rw [if_pos e, Nat.testBit_or, Bool.or_eq_true, Nat.testBit_two_pow, decide_eq_true_eq] at h
        rcases h with h | h
        · exact dK_bit l k c h
        · exact ⟨t, List.mem_of_getElem? hs, e, h⟩
      · rw [if_neg e] at h
        exact dK_bit l k c h
theorem gd_di {D : Dt} {m g c : Nat} (h : gd D (m + 1) g) (hc : (diR D g).testBit c = true) : gd D m c := by
  obtain ⟨Z, hz, ht⟩ := (gd_s D m g).mp h
  unfold diR at hc
  rw [hz] at hc
  obtain ⟨t, h1, h2, h3⟩ := dK_bit Z.its 6 c hc
  rw [← h3]
  exact (ht t h1).2 h2
/-- all that wait are there, and their grams are known -/
def gds (D : Dt) (W : Nat) : Prop := ∀ r, W.testBit r = true → gd D 8 r
theorem itr_gd {D : Dt} {p : Nat} (h : gd D 8 p) : ∀ k, gds D (itr (wF D) k (diR D p))
  | 0 => fun r hr => gd_up D 7 r (gd_di h hr)
  | k + 1 => fun r hr => by
    have ih := itr_gd h k
    rw [itr_s] at hr
    unfold wF at hr
    rw [Nat.testBit_or, Bool.or_eq_true] at hr
    rcases hr with hr | hr
    · exact ih r hr
    · obtain ⟨o, h1, h2, h3⟩ := (dIn_bit D _ 8 r).mp hr
      exact gd_up D 7 r (gd_di (ih o h2) h3)
theorem gds_all {D : Dt} {p : Nat} (h : gd D 8 p) : gds D (2 ^ p ||| conD D p) := by
  intro r hr
  rw [Nat.testBit_or, Bool.or_eq_true, Nat.testBit_two_pow, decide_eq_true_eq] at hr
  rcases hr with hr | hr
  · rw [← hr]; exact h
  · exact itr_gd h 8 r hr
/-- the first for which it holds -/
def loF (p : Nat → Bool) : Nat → Nat → Nat
  | 0, i => i
  | m + 1, i => if p i = true then i else loF p m (i + 1)
theorem loF_s (p : Nat → Bool) (m i : Nat) : loF p (m + 1) i = if p i = true then i else loF p m (i + 1) := rfl
theorem loF_t (p : Nat → Bool) : ∀ m i, (∃ j, i ≤ j ∧ j < i + m ∧ p j = true) → loF p m i < i + m ∧ p (loF p m i) = true
  | 0, i, ⟨j, h1, h2, _⟩ => by omega
  | m + 1, i, ⟨j, h1, h2, h3⟩ => by
    rw [loF_s]
    by_cases e : p i = true
    · rw [if_pos e]
      exact ⟨by omega, e⟩
    · rw [if_neg e]
      have := loF_t p m (i + 1) ⟨j, by
        rcases Nat.lt_or_ge i j with q | q
        · exact q
        · have : j = i := by omega
          rw [this] at h3
          exact absurd h3 e, by omega, h3⟩
      exact ⟨by omega, this.2⟩
def frB (D : Dt) (W i : Nat) : Bool := W.testBit i && !(dIn D W 8).testBit i
def nxD (D : Dt) (W : Nat) : Nat := loF (frB D W) 8 0
theorem nxD_ok {D : Dt} {W : Nat} (hW : W < 256) (h0 : ¬ W = 0) (hg : gds D W) : nxD D W < 8 ∧ W.testBit (nxD D W) = true ∧ ∃ Z, D.rc (nxD D W) = some Z := by
  have hex : ∃ j, j < 8 ∧ frB D W j = true := by
    refine Classical.byContradiction fun hne => ?_
    have par : ∀ r, W.testBit r = true → ∃ o, W.testBit o = true ∧ (diR D o).testBit r = true := by
      intro r hr
      have hr8 := bit_ge hW hr
      have hd : (dIn D W 8).testBit r = true := by
        cases hd : (dIn D W 8).testBit r with
        | true => rfl
        | false => exact absurd ⟨r, hr8, by unfold frB; rw [hr, hd]; rfl⟩ hne
      obtain ⟨o, h1, h2, h3⟩ := (dIn_bit D W 8 r).mp hd
      exact ⟨o, h2, h3⟩
    have dn : ∀ k, k ≤ 8 → ∀ r, W.testBit r = true → gd D (8 - k) r := by
      intro k
      induction k with
      | zero => exact fun _ r hr => hg r hr
      | succ k ih =>
        intro hk r hr
        obtain ⟨o, h1, h2⟩ := par r hr
        have := ih (by omega) o h1
        rw [show 8 - k = 8 - (k + 1) + 1 by omega] at this
        exact gd_di this h2
    have : ∃ r, W.testBit r = true := Classical.byContradiction fun z => h0 (Nat.eq_of_testBit_eq fun i => by
      rw [Nat.zero_testBit]
      cases e : W.testBit i with
      | false => rfl
      | true => exact absurd ⟨i, e⟩ z)
    obtain ⟨r, hr⟩ := this
    exact (dn 8 (Nat.le_refl 8) r hr).elim
  obtain ⟨j, hj, hp⟩ := hex
  have h := loF_t (frB D W) 8 0 ⟨j, Nat.zero_le _, by omega, hp⟩
  have h1 : nxD D W < 8 := by have := h.1; unfold nxD; omega
  have h2 : frB D W (nxD D W) = true := h.2
  unfold frB at h2
  rw [Bool.and_eq_true] at h2
  obtain ⟨Z, hz, _⟩ := (gd_s D 7 _).mp (hg _ h2.1)
  exact ⟨h1, h2.1, Z, hz⟩
def clr (W k : Nat) : Nat := W &&& (255 ^^^ 2 ^ k)
theorem clr_e : ∀ v, v < 256 → ∀ k, k < 8 → nI v &&& (nI (2 ^ k) ^^^ (-1)) = nI (clr v k) := by decide +kernel
theorem clr_pc : ∀ v, v < 256 → ∀ k, k < 8 → v.testBit k = true → pc8 (clr v k) + 1 = pc8 v ∧ clr v k < 256 := by decide +kernel
theorem pc8_z : ∀ v, v < 256 → pc8 v = 0 → v = 0 := by decide +kernel
theorem clr_gds {D : Dt} {W k : Nat} (h : gds D W) : gds D (clr W k) := fun r hr => by
  unfold clr at hr
  rw [Nat.testBit_and, Bool.and_eq_true] at hr
  exact h r hr.1
/-- the sums, item by item -/
def agI (D : Dt) (f : Nat × Nat) (t : It) (z : (Nat → Nat × Nat) × (Nat → Nat × Nat)) : Option ((Nat → Nat × Nat) × (Nat → Nat × Nat)) := if 12 ≤ t.so then (match D.rc (t.so - 12) with
    | none => none
    | some Z => match adO (z.1 (t.so - 12)) (fOf t f Z) with
      | none => none
      | some q => some (upS z.1 (t.so - 12) q, z.2))
  else if (adI D t f z.2).1 = 0 then some (z.1, (adI D t f z.2).2) else none
def agL (D : Dt) (f : Nat × Nat) : List It → (Nat → Nat × Nat) × (Nat → Nat × Nat) → Option ((Nat → Nat × Nat) × (Nat → Nat × Nat))
  | [], z => some z
  | t :: ts, z => match agI D f t z with
    | none => none
    | some y => agL D f ts y
theorem agL_c (D : Dt) (f : Nat × Nat) (t : It) (ts : List It) (z : (Nat → Nat × Nat) × (Nat → Nat × Nat)) : agL D f (t :: ts) z = match agI D f t z with
    | none => none
    | some y => agL D f ts y := rfl
def agR (D : Dt) : Nat → Nat → (Nat → Nat × Nat) × (Nat → Nat × Nat) → Option ((Nat → Nat × Nat) × (Nat → Nat × Nat))
  | 0, _, z => some z
  | m + 1, W, z => if W = 0 then some z else match D.rc (nxD D W) with
    | none => none
    | some Z => match agL D (z.1 (nxD D W)) Z.its z with
      | none => none
      | some y => agR D m (clr W (nxD D W)) y
theorem agR_s (D : Dt) (m W : Nat) (z : (Nat → Nat × Nat) × (Nat → Nat × Nat)) : agR D (m + 1) W z = if W = 0 then some z else match D.rc (nxD D W) with
    | none => none
    | some Z => match agL D (z.1 (nxD D W)) Z.its z with
      | none => none
      | some y => agR D m (clr W (nxD D W)) y := rfl
def zOk (z : (Nat → Nat × Nat) × (Nat → Nat × Nat)) : Prop := (∀ i, i < 8 → isF (z.1 i)) ∧ stOk z.2
theorem agI_ok {D : Dt} (hD : D.ok) {f : Nat × Nat} (hf : isF f) {t : It} (ht : t.ok) {z y : (Nat → Nat × Nat) × (Nat → Nat × Nat)} (hz : zOk z) (h : agI D f t z = some y) : zOk y := by
  have hso := ht.2.2.2
  unfold agI at h
  by_cases e : 12 ≤ t.so
  · rw [if_pos e] at h
    cases hr : D.rc (t.so - 12) with
    | none => rw [hr] at h; cases h
    | some Z =>
      rw [hr] at h
      dsimp only at h
      have hZ := (hD.1 _ _ hr).2
      cases ha : adO (z.1 (t.so - 12)) (fOf t f Z) with
      | none => rw [ha] at h; cases h
      | some q =>
        rw [ha] at h
        cases h
        refine ⟨fun i hi => ?_, hz.2⟩
        unfold upS
        dsimp only
        split
        · exact adO_ok (hz.1 _ (by omega)) (fOf_ok ht hf hZ) q ha
        · exact hz.1 i hi
  · rw [if_neg e] at h
    have ho := adI_ok hD ht (by omega) hf hz.2
    by_cases e0 : (adI D t f z.2).1 = 0
    · rw [if_pos e0] at h
      cases h
      exact ⟨hz.1, ho.1⟩
    · rw [if_neg e0] at h
      cases h
theorem agL_ok {D : Dt} (hD : D.ok) {f : Nat × Nat} (hf : isF f) : ∀ (l : List It) (z y : (Nat → Nat × Nat) × (Nat → Nat × Nat)), (∀ t, t ∈ l → t.ok) → zOk z → agL D f l z = some y → zOk y
  | [], z, y, hl, hz, h => by cases h; exact hz
  | t :: ts, z, y, hl, hz, h => by
    rw [agL_c] at h
    cases ha : agI D f t z with
    | none => rw [ha] at h; cases h
    | some x =>
      rw [ha] at h
      exact agL_ok hD hf ts x y (fun u hu => hl u (List.mem_cons_of_mem _ hu)) (agI_ok hD hf (hl t List.mem_cons_self) hz ha) h
/-- what is found again -/
def agD (D : Dt) (p : Nat × (Nat × Nat)) : Option ((Nat → Nat × Nat) × (Nat → Nat × Nat)) := agR D 8 (2 ^ p.1 ||| conD D p.1) (upS S00 p.1 p.2, S00)
