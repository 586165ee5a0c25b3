/-! what recipes contain: sets as bits -/
def dK (l : List It) : Nat → Nat
  | 0 => 0
  | k + 1 => match l[k]? with
    | some t => if 12 ≤ t.so then dK l k ||| 2 ^ (t.so - 12) else dK l k
    | none => dK l k
theorem dK_s (l : List It) (k : Nat) : dK l (k + 1) = (match l[k]? with
    | some t => if 12 ≤ t.so then dK l k ||| 2 ^ (t.so - 12) else dK l k
    | none => dK l k) := rfl
def iK (l : List It) : Nat → Nat
  | 0 => 0
  | k + 1 => match l[k]? with
    | some t => if 12 ≤ t.so then iK l k else iK l k ||| 2 ^ t.so
    | none => iK l k
theorem iK_s (l : List It) (k : Nat) : iK l (k + 1) = (match l[k]? with
    | some t => if 12 ≤ t.so then iK l k else iK l k ||| 2 ^ t.so
    | none => iK l k) := rfl
theorem dK_le {Z : Rc} (hZ : Z.ok) : ∀ k, dK Z.its k < 256
  | 0 => show 0 < 256 by decide
  | k + 1 => by
    have ih := dK_le hZ k
    rw [dK_s]
    cases h : Z.its[k]? with
    | none => exact ih
    | some t =>
      have ht := hZ.2.2.1 k t h
      have hs := ht.2.2.2
      dsimp only
      split
      · exact Nat.or_lt_two_pow (n := 8) ih (Nat.pow_lt_pow_right (by decide) (by omega))
      · exact ih
theorem iK_le {Z : Rc} (hZ : Z.ok) : ∀ k, iK Z.its k < 4096
  | 0 => show 0 < 4096 by decide
  | k + 1 => by
    have ih := iK_le hZ k
    rw [iK_s]
    cases h : Z.its[k]? with
    | none => exact ih
    | some t =>
      dsimp only
      split
      · exact ih
      · exact Nat.or_lt_two_pow (n := 12) ih (Nat.pow_lt_pow_right (by decide) (by omega))
theorem dK_more (l : List It) : ∀ (m k : Nat), l.length ≤ k → dK l (k + m) = dK l k
  | 0, k, _ => rfl
  | m + 1, k, h => by
    rw [← Nat.add_assoc, dK_s, List.getElem?_eq_none (by omega)]
    exact dK_more l m k h
theorem iK_more (l : List It) : ∀ (m k : Nat), l.length ≤ k → iK l (k + m) = iK l k
  | 0, k, _ => rfl
  | m + 1, k, h => by
    rw [← Nat.add_assoc, iK_s, List.getElem?_eq_none (by omega)]
    exact iK_more l m k h
def diR (D : Dt) (r : Nat) : Nat := match D.rc r with
  | none => 0
  | some Z => dK Z.its 6
def igR (D : Dt) (r : Nat) : Nat := match D.rc r with
  | none => 0
  | some Z => iK Z.its 6
theorem diR_le {D : Dt} (hD : D.ok) (r : Nat) : diR D r < 256 := by
  unfold diR
  cases h : D.rc r with
  | none => exact show 0 < 256 by decide
  | some Z => exact dK_le (hD.1 r Z h).2 6
theorem igR_le {D : Dt} (hD : D.ok) (r : Nat) : igR D r < 4096 := by
  unfold igR
  cases h : D.rc r with
  | none => exact show 0 < 4096 by decide
  | some Z => exact iK_le (hD.1 r Z h).2 6
/-- what those of a set contain directly -/
def dIn (D : Dt) (s : Nat) : Nat → Nat
  | 0 => 0
  | k + 1 => if s.testBit k = true then dIn D s k ||| diR D k else dIn D s k
theorem dIn_s (D : Dt) (s k : Nat) : dIn D s (k + 1) = if s.testBit k = true then dIn D s k ||| diR D k else dIn D s k := rfl
theorem dIn_le {D : Dt} (hD : D.ok) (s : Nat) : ∀ k, dIn D s k < 256
  | 0 => show 0 < 256 by decide
  | k + 1 => by
    rw [dIn_s]
    split
    · exact Nat.or_lt_two_pow (n := 8) (dIn_le hD s k) (diR_le hD k)
    · exact dIn_le hD s k
def tI (D : Dt) (s : Nat) : Nat → Nat
  | 0 => s
  | k + 1 => if (tI D s k).testBit k = true then tI D s k ||| diR D k else tI D s k
theorem tI_s (D : Dt) (s k : Nat) : tI D s (k + 1) = if (tI D s k).testBit k = true then tI D s k ||| diR D k else tI D s k := rfl
theorem tI_le {D : Dt} (hD : D.ok) {s : Nat} (hs : s < 256) : ∀ k, tI D s k < 256
  | 0 => hs
  | k + 1 => by
    rw [tI_s]
    split
    · exact Nat.or_lt_two_pow (n := 8) (tI_le hD hs k) (diR_le hD k)
    · exact tI_le hD hs k
def sub (a b : Nat) : Prop := ∀ i, a.testBit i = true → b.testBit i = true
theorem sub_r (a : Nat) : sub a a := fun _ h => h
theorem sub_t {a b c : Nat} (h : sub a b) (h2 : sub b c) : sub a c := fun i x => h2 i (h i x)
theorem sub_l (a b : Nat) : sub a (a ||| b) := fun i h => by rw [Nat.testBit_or, h]; rfl
theorem sub_or {a b c : Nat} (h1 : sub a c) (h2 : sub b c) : sub (a ||| b) c := fun i h => by
  rw [Nat.testBit_or, Bool.or_eq_true] at h
  rcases h with h | h
  · exact h1 i h
  · exact h2 i h
theorem sub_e {a b : Nat} (h1 : sub a b) (h2 : sub b a) : a = b := Nat.eq_of_testBit_eq fun i => by
  cases e : a.testBit i with
  | true => rw [h1 i e]
  | false =>
    cases e2 : b.testBit i with
    | true => rw [h2 i e2] at e; cases e
    | false => rfl
theorem bit_ge {a k : Nat} (h : a < 256) (hk : a.testBit k = true) : k < 8 := by
  rcases Nat.lt_or_ge k 8 with q | q
  · exact q
  · have := Nat.testBit_lt_two_pow (x := a) (i := k) (Nat.lt_of_lt_of_le h (Nat.pow_le_pow_right (n := 2) (by decide) q))
    rw [this] at hk
    cases hk
theorem pc8_up {a b : Nat} (ha : a < 256) (hb : b < 256) (h : sub a b) (hne : ¬ a = b) : pc8 a + 1 ≤ pc8 b := by
  have hx : ∃ i, i < 8 ∧ b.testBit i = true ∧ ¬ a.testBit i = true := Classical.byContradiction fun z => hne (sub_e h fun i hi => Classical.byContradiction fun y => z ⟨i, bit_ge hb hi, hi, y⟩)
  obtain ⟨i, hi, h1, h2⟩ := hx
  have mono : ∀ j, (if a.testBit j = true then 1 else 0) ≤ (if b.testBit j = true then (1 : Nat) else 0) := fun j => by
    by_cases e : a.testBit j = true
    · rw [if_pos e, if_pos (h j e)]
      exact Nat.le_refl 1
    · rw [if_neg e]
      exact Nat.zero_le _
  have strict : (if a.testBit i = true then 1 else 0) + 1 ≤ (if b.testBit i = true then (1 : Nat) else 0) := by
    rw [if_neg h2, if_pos h1]
    exact Nat.le_refl 1
  have m0 := mono 0
  have m1 := mono 1
  have m2 := mono 2
  have m3 := mono 3
  have m4 := mono 4
  have m5 := mono 5
  have m6 := mono 6
  have m7 := mono 7
  unfold pc8
  have h8 : i = 0 ∨ i = 1 ∨ i = 2 ∨ i = 3 ∨ i = 4 ∨ i = 5 ∨ i = 6 ∨ i = 7 := by omega
  rcases h8 with e | e | e | e | e | e | e | e <;> subst e <;> omega
theorem pc8_le (a : Nat) : pc8 a ≤ 8 := by
  unfold pc8
  have f : ∀ j, (if a.testBit j = true then 1 else 0) ≤ 1 := fun j => by split <;> omega
  have m0 := f 0
  have m1 := f 1
  have m2 := f 2
  have m3 := f 3
  have m4 := f 4
  have m5 := f 5
  have m6 := f 6
  have m7 := f 7
  omega
/-- eight rounds are enough -/
def itr (F : Nat → Nat) : Nat → Nat → Nat
  | 0, a => a
  | k + 1, a => F (itr F k a)
theorem itr_s (F : Nat → Nat) (k a : Nat) : itr F (k + 1) a = F (itr F k a) := rfl
theorem itr_8 {F : Nat → Nat} (h1 : ∀ a, a < 256 → F a < 256) (h2 : ∀ a, sub a (F a)) {a : Nat} (ha : a < 256) : F (itr F 8 a) = itr F 8 a := by
  have hb : ∀ k, itr F k a < 256 := fun k => by
    induction k with
    | zero => exact ha
    | succ k ih => exact h1 _ ih
  have h : ∀ k, F (itr F k a) = itr F k a ∨ k ≤ pc8 (itr F k a) := fun k => by
    induction k with
    | zero => exact Or.inr (Nat.zero_le _)
    | succ k ih =>
      by_cases e : F (itr F k a) = itr F k a
      · exact Or.inl (by rw [itr_s, e, e])
      · rcases ih with q | q
        · exact absurd q e
        · have := pc8_up (hb k) (h1 _ (hb k)) (h2 _) (fun z => e z.symm)
          exact Or.inr (by rw [itr_s]; omega)
  rcases h 8 with q | q
  · exact q
  · have h8 : pc8 (itr F 8 a) = 8 := Nat.le_antisymm (pc8_le _) q
    have all := pc8_8 _ (hb 8) h8
    exact sub_e (fun i hi => all i (bit_ge (h1 _ (hb 8)) hi)) (h2 _)
/-- all that a set's recipes contain lies in it -/
def cl (D : Dt) (s : Nat) : Prop := ∀ o, s.testBit o = true → sub (diR D o) s
theorem dIn_bit (D : Dt) (s : Nat) : ∀ k i, (dIn D s k).testBit i = true ↔ ∃ o, o < k ∧ s.testBit o = true ∧ (diR D o).testBit i = true := by
  intro k
  induction k with
  | zero =>
    intro i
    refine ⟨fun h => ?_, fun ⟨o, h, _⟩ => absurd h (Nat.not_lt_zero o)⟩
    have h : (0 : Nat).testBit i = true := h
    rw [Nat.zero_testBit] at h
    cases h
  | succ k ih =>
    intro i
    rw [dIn_s]
    by_cases c : s.testBit k = true
    · rw [if_pos c, Nat.testBit_or, Bool.or_eq_true, ih]
      constructor
      · rintro (⟨o, h1, h2⟩ | h)
        · exact ⟨o, by omega, h2⟩
        · exact ⟨k, by omega, c, h⟩
      · rintro ⟨o, h1, h2, h3⟩
        by_cases e : o = k
        · subst e
          exact Or.inr h3
        · exact Or.inl ⟨o, by omega, h2, h3⟩
    · rw [if_neg c, ih]
      constructor
      · rintro ⟨o, h1, h2⟩
        exact ⟨o, by omega, h2⟩
      · rintro ⟨o, h1, h2, h3⟩
        by_cases e : o = k
        · subst e
          exact absurd h2 c
        · exact ⟨o, by omega, h2, h3⟩
theorem tI_up (D : Dt) (s : Nat) : ∀ m k, sub (tI D s k) (tI D s (k + m))
  | 0, k => sub_r _
  | m + 1, k => by
    refine sub_t (tI_up D s m k) ?_
    rw [← Nat.add_assoc, tI_s]
    split
    · exact sub_l _ _
    · exact sub_r _
theorem tI_sub (D : Dt) {s S : Nat} (hS : cl D S) (h : sub s S) : ∀ k, sub (tI D s k) S
  | 0 => h
  | k + 1 => by
    have ih := tI_sub D hS h k
    rw [tI_s]
    split
    · rename_i c
      exact sub_or ih (hS k (ih k c))
    · exact ih
theorem dIn_sub (D : Dt) {s S : Nat} (hS : cl D S) (h : sub s S) (k : Nat) : sub (dIn D s k) S := fun i hi => by
  obtain ⟨o, h1, h2, h3⟩ := (dIn_bit D s k i).mp hi
  exact hS o (h o h2) i h3
/-- what a recipe contains -/
def wF (D : Dt) (a : Nat) : Nat := a ||| dIn D a 8
def conD (D : Dt) (r : Nat) : Nat := itr (wF D) 8 (diR D r)
theorem wF_le {D : Dt} (hD : D.ok) {a : Nat} (ha : a < 256) : wF D a < 256 := Nat.or_lt_two_pow (n := 8) ha (dIn_le hD a 8)
theorem itr_le {F : Nat → Nat} (h1 : ∀ a, a < 256 → F a < 256) {a : Nat} (ha : a < 256) : ∀ k, itr F k a < 256
  | 0 => ha
  | k + 1 => h1 _ (itr_le h1 ha k)
theorem conD_le {D : Dt} (hD : D.ok) (r : Nat) : conD D r < 256 := itr_le (fun _ h => wF_le hD h) (diR_le hD r) 8
theorem wF_cl {D : Dt} (hD : D.ok) {a : Nat} (ha : a < 256) (h : wF D a = a) : cl D a := by
  intro o ho i hi
  have h2 : (wF D a).testBit i = true := by
    unfold wF
    rw [Nat.testBit_or, Bool.or_eq_true]
    exact Or.inr ((dIn_bit D a 8 i).mpr ⟨o, bit_ge ha ho, ho, hi⟩)
  rw [h] at h2
  exact h2
theorem conD_cl {D : Dt} (hD : D.ok) (r : Nat) : cl D (conD D r) := wF_cl hD (conD_le hD r) (itr_8 (fun _ h => wF_le hD h) (fun a => sub_l _ _) (diR_le hD r))
theorem itr_up {F : Nat → Nat} (h2 : ∀ a, sub a (F a)) (a : Nat) : ∀ k, sub a (itr F k a)
  | 0 => sub_r a
  | k + 1 => sub_t (itr_up h2 a k) (h2 _)
theorem conD_di (D : Dt) (r : Nat) : sub (diR D r) (conD D r) := itr_up (fun a => sub_l _ _) _ 8
theorem conD_least (D : Dt) {r S : Nat} (hS : cl D S) (h : sub (diR D r) S) : sub (conD D r) S := by
  have h1 : ∀ k, sub (itr (wF D) k (diR D r)) S := fun k => by
    induction k with
    | zero => exact h
    | succ k ih =>
      rw [itr_s]
      exact sub_or ih (dIn_sub D hS ih 8)
  exact h1 8
/-- the reference's way to it -/
theorem conD_t {D : Dt} (hD : D.ok) (r : Nat) : itr (fun a => tI D a 8) 8 (diR D r) = conD D r := by
  have hle : ∀ a, a < 256 → (fun a => tI D a 8) a < 256 := fun a ha => tI_le hD ha 8
  have hup : ∀ a, sub a ((fun a => tI D a 8) a) := fun a => tI_up D a 8 0
  have hb := itr_le hle (diR_le hD r) 8
  have hst := itr_8 hle hup (diR_le hD r)
  have hcl : cl D (itr (fun a => tI D a 8) 8 (diR D r)) := by
    intro o ho
    have ho8 := bit_ge hb ho
    generalize itr (fun a => tI D a 8) 8 (diR D r) = s at hst ho hb
    have hst : tI D s 8 = s := hst
    have e1 := tI_up D s o 0 o ho
    rw [Nat.zero_add] at e1
    have e2 : sub (diR D o) (tI D s (o + 1)) := by
      rw [tI_s, if_pos e1]
      intro i hi
      rw [Nat.testBit_or, hi, Bool.or_true]
    have e3 := tI_up D s (8 - (o + 1)) (o + 1)
    rw [show o + 1 + (8 - (o + 1)) = 8 by omega, hst] at e3
    exact sub_t e2 e3
  refine sub_e ?_ (conD_least D hcl (itr_up hup _ 8))
  have h1 : ∀ k, sub (itr (fun a => tI D a 8) k (diR D r)) (conD D r) := fun k => by
    induction k with
    | zero => exact conD_di D r
    | succ k ih =>
      rw [itr_s]
      exact tI_sub D (conD_cl hD r) ih 8
  exact h1 8
theorem dIn_one (D : Dt) {r : Nat} (hr : r < 8) : dIn D (2 ^ r) 8 = diR D r := by
  refine sub_e (fun i hi => ?_) (fun i hi => ?_)
  · obtain ⟨o, h1, h2, h3⟩ := (dIn_bit D (2 ^ r) 8 i).mp hi
    rw [Nat.testBit_two_pow, decide_eq_true_eq] at h2
    rw [h2]
    exact h3
  · exact (dIn_bit D (2 ^ r) 8 i).mpr ⟨r, hr, by rw [Nat.testBit_two_pow, decide_eq_true_eq], hi⟩
/-- the ingredients of a set of recipes -/
def inD (D : Dt) (s : Nat) : Nat → Nat
  | 0 => 0
  | k + 1 => if s.testBit k = true then inD D s k ||| igR D k else inD D s k
theorem inD_s (D : Dt) (s k : Nat) : inD D s (k + 1) = if s.testBit k = true then inD D s k ||| igR D k else inD D s k := rfl
theorem inD_le {D : Dt} (hD : D.ok) (s : Nat) : ∀ k, inD D s k < 4096
  | 0 => show 0 < 4096 by decide
  | k + 1 => by
    rw [inD_s]
    split
    · exact Nat.or_lt_two_pow (n := 12) (inD_le hD s k) (igR_le hD k)
    · exact inD_le hD s k
