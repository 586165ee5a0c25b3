/-! the reference's walk: what its parts say of the walk -/
theorem wrC_n {D : Dt} {t : It} {f : Nat × Nat} {op : Nat} (inner : Nat → Rc → Nat × Nat → ((Nat → Nat × Nat) × Nat) → Nat × ((Nat → Nat × Nat) × Nat)) (z : (Nat → Nat × Nat) × Nat) {b : Bool} (hb : op.testBit (t.so - 12) = b) (h : ¬ (wrC D t f b).1 = 0) : wkA D inner op f t z = ((wrC D t f b).1, z) := by
  subst hb
  unfold wrC at h ⊢
  unfold wkA
  cases hz : D.rc (t.so - 12) with
  | none => rfl
  | some Z =>
    rw [hz] at h
    dsimp only at h ⊢
    by_cases h1 : op.testBit (t.so - 12) = true
    · rw [if_pos h1, if_pos h1]
    · rw [if_neg h1] at h
      rw [if_neg h1, if_neg h1]
      by_cases h2 : ¬ Z.un = t.un
      · rw [if_pos h2, if_pos h2]
      · rw [if_neg h2] at h
        rw [if_neg h2, if_neg h2]
        cases hf : fOf t f Z with
        | none => rfl
        | some f2 =>
          rw [hf] at h
          exact absurd rfl h
theorem wrC_0 {D : Dt} {t : It} {f : Nat × Nat} {op : Nat} (inner : Nat → Rc → Nat × Nat → ((Nat → Nat × Nat) × Nat) → Nat × ((Nat → Nat × Nat) × Nat)) (z : (Nat → Nat × Nat) × Nat) {b : Bool} (hb : op.testBit (t.so - 12) = b) (h : (wrC D t f b).1 = 0) : ∃ Z, D.rc (t.so - 12) = some Z ∧ fOf t f Z = some (wrC D t f b).2 ∧ ¬ op.testBit (t.so - 12) = true ∧ wkA D inner op f t z = inner (t.so - 12) Z (wrC D t f b).2 z := by
  subst hb
  unfold wrC at h ⊢
  unfold wkA
  cases hz : D.rc (t.so - 12) with
  | none =>
    rw [hz] at h
    cases h
  | some Z =>
    rw [hz] at h
    dsimp only at h ⊢
    by_cases h1 : op.testBit (t.so - 12) = true
    · rw [if_pos h1] at h
      cases h
    · rw [if_neg h1] at h
      rw [if_neg h1, if_neg h1]
      by_cases h2 : ¬ Z.un = t.un
      · rw [if_pos h2] at h
        cases h
      · rw [if_neg h2] at h
        rw [if_neg h2, if_neg h2]
        cases hf : fOf t f Z with
        | none =>
          rw [hf] at h
          cases h
        | some f2 => exact ⟨Z, rfl, hf, h1, rfl⟩
/-- how many of eight bits are set -/
def pc8 (a : Nat) : Nat := (if a.testBit 0 = true then 1 else 0) + (if a.testBit 1 = true then 1 else 0) + (if a.testBit 2 = true then 1 else 0) + (if a.testBit 3 = true then 1 else 0) + (if a.testBit 4 = true then 1 else 0) + (if a.testBit 5 = true then 1 else 0) + (if a.testBit 6 = true then 1 else 0) + (if a.testBit 7 = true then 1 else 0)
theorem pc8_s : ∀ a, a < 256 → ∀ r, r < 8 → ¬ a.testBit r = true → pc8 (a ||| 2 ^ r) = pc8 a + 1 := by decide +kernel
theorem pc8_8 : ∀ a, a < 256 → pc8 a = 8 → ∀ r, r < 8 → a.testBit r = true := by decide +kernel
/-- what the reference has in hand, and what it found -/
def HV (I : Nat → Nat → Int32) (J : Nat → Nat → Int64) (h : Nat) (rid pos : Nat → Nat) (fc : Nat → Nat × Nat) (S : Nat → Nat × Nat) : Prop := I 61 21 = nI h ∧ (∀ k, k < h → (I 69 k = nI (rid k) ∧ rid k < 8) ∧ I 70 k = nI (pos k) ∧ J 71 k = lN (fc k).1 ∧ J 72 k = lN (fc k).2) ∧ mS J 67 68 12 S ∧ I 61 8 = nI 0
def gI (I I' : Nat → Nat → Int32) : Prop := ∀ q j, ¬ (q = 61 ∧ (j = 8 ∨ j = 21)) → ¬ q = 69 → ¬ q = 70 → I' q j = I q j
def gJ (J J' : Nat → Nat → Int64) : Prop := ∀ q j, ¬ (q = 61 ∧ (j = 6 ∨ j = 7)) → ¬ q = 67 → ¬ q = 68 → ¬ q = 71 → ¬ q = 72 → J' q j = J q j
theorem gI_t {I I' I2 : Nat → Nat → Int32} (h : gI I I') (h2 : gI I' I2) : gI I I2 := fun q j a b c => (h2 q j a b c).trans (h q j a b c)
theorem gJ_t {J J' J2 : Nat → Nat → Int64} (h : gJ J J') (h2 : gJ J' J2) : gJ J J2 := fun q j a b c e f => (h2 q j a b c e f).trans (h q j a b c e f)
theorem fI_g {I I' : Nat → Nat → Int32} (h : fI I I') : gI I I' := fun q j a _ _ => h q j (fun z => a ⟨z.1, Or.inl z.2⟩)
theorem fJ_g {J J' : Nat → Nat → Int64} (h : fJ J J') : gJ J J' := fun q j a b c _ _ => h q j a b c
theorem fK_g {J J' : Nat → Nat → Int64} (h : fK J J') : gJ J J' := fun q j a _ _ _ _ => h q j a
theorem gI_u69 {I I' : Nat → Nat → Int32} (h : gI I I') (i : Nat) (v : Int32) : gI I (rs_u2 I' 69 i v) := fun q j a b c => by rw [rs_u2_ne _ _ (fun z => b z.1)]; exact h q j a b c
theorem gI_u70 {I I' : Nat → Nat → Int32} (h : gI I I') (i : Nat) (v : Int32) : gI I (rs_u2 I' 70 i v) := fun q j a b c => by rw [rs_u2_ne _ _ (fun z => c z.1)]; exact h q j a b c
theorem gI_u21 {I I' : Nat → Nat → Int32} (h : gI I I') (v : Int32) : gI I (rs_u2 I' 61 21 v) := fun q j a b c => by rw [rs_u2_ne _ _ (fun z => a ⟨z.1, Or.inr z.2⟩)]; exact h q j a b c
theorem gJ_u71 {I I' : Nat → Nat → Int64} (h : gJ I I') (i : Nat) (v : Int64) : gJ I (rs_u2 I' 71 i v) := fun q j a b c e f => by rw [rs_u2_ne _ _ (fun z => e z.1)]; exact h q j a b c e f
theorem gJ_u72 {I I' : Nat → Nat → Int64} (h : gJ I I') (i : Nat) (v : Int64) : gJ I (rs_u2 I' 72 i v) := fun q j a b c e f => by rw [rs_u2_ne _ _ (fun z => f z.1)]; exact h q j a b c e f
theorem gI_m {I I' : Nat → Nat → Int32} {D : Dt} (h : gI I I') (hM : mDt (I 62) D) : mDt (I' 62) D := by
  rw [show I' 62 = I 62 from funext fun j => h 62 j (by omega) (by decide) (by decide)]
  exact hM
