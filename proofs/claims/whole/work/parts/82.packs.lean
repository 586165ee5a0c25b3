/-! packs: what reaches a sum, the weight of a choice, the least weight -/
def zP (pk : List (Nat × Nat)) (k : Nat) : Nat := match pk[k]? with
  | some p => p.1
  | none => 0
def rP (pk : List (Nat × Nat)) (k : Nat) : Nat := match pk[k]? with
  | some p => p.2
  | none => 0
def wT (k : Nat) : Nat := if k = 0 then 8192 else if k = 1 then 1 else 0
def wP (pk : List (Nat × Nat)) (k : Nat) : Nat := rP pk k * 549755813888 + 67108864 - wT k
def Rch (pk : List (Nat × Nat)) (s a b c : Nat) : Prop := a * zP pk 0 + b * zP pk 1 + c * zP pk 2 = s ∧ (pk.length ≤ 1 → b = 0) ∧ (pk.length ≤ 2 → c = 0)
def wgt (pk : List (Nat × Nat)) (a b c : Nat) : Nat := a * wP pk 0 + b * wP pk 1 + c * wP pk 2
def pkOk (pk : List (Nat × Nat)) : Prop := 1 ≤ pk.length ∧ pk.length ≤ 3 ∧ ∀ (k : Nat) (p : Nat × Nat), pk[k]? = some p → 1 ≤ p.1 ∧ p.1 ≤ 2000 ∧ p.2 ≤ 999
theorem zP_s {pk : List (Nat × Nat)} {k : Nat} {p : Nat × Nat} (h : pk[k]? = some p) : zP pk k = p.1 := by unfold zP; rw [h]
theorem rP_s {pk : List (Nat × Nat)} {k : Nat} {p : Nat × Nat} (h : pk[k]? = some p) : rP pk k = p.2 := by unfold rP; rw [h]
theorem pk_get {pk : List (Nat × Nat)} (h : pkOk pk) {k : Nat} (hk : k < pk.length) : ∃ p, pk[k]? = some p ∧ zP pk k = p.1 ∧ rP pk k = p.2 ∧ 1 ≤ p.1 ∧ p.1 ≤ 2000 ∧ p.2 ≤ 999 := by
  have e : pk[k]? = some pk[k] := List.getElem?_eq_getElem hk
  exact ⟨_, e, zP_s e, rP_s e, h.2.2 k _ e⟩
theorem zP_1 {pk : List (Nat × Nat)} (h : pkOk pk) {k : Nat} (hk : k < pk.length) : 1 ≤ zP pk k ∧ zP pk k ≤ 2000 := by
  obtain ⟨p, h1, h2, h3, h4, h5, h6⟩ := pk_get h hk
  rw [h2]
  exact ⟨h4, h5⟩
theorem zP_n {pk : List (Nat × Nat)} {k : Nat} (hk : pk.length ≤ k) : zP pk k = 0 := by unfold zP; rw [List.getElem?_eq_none hk]
theorem rP_le {pk : List (Nat × Nat)} (h : pkOk pk) (k : Nat) : rP pk k ≤ 999 := by
  unfold rP
  cases e : pk[k]? with
  | none => exact Nat.zero_le _
  | some p => exact (h.2.2 k p e).2.2
theorem wT_le (k : Nat) : wT k ≤ 8192 := by
  unfold wT
  split
  · exact Nat.le_refl _
  · split <;> omega
theorem wP_le {pk : List (Nat × Nat)} (h : pkOk pk) (k : Nat) : wP pk k ≤ 549206125215000 ∧ 67100672 ≤ wP pk k := by
  have h1 := rP_le h k
  have h2 := wT_le k
  unfold wP
  omega
/-- how many packs at most -/
theorem Rch_n {pk : List (Nat × Nat)} (h : pkOk pk) {s a b c : Nat} (hr : Rch pk s a b c) : a + b + c ≤ s := by
  obtain ⟨h1, h2, h3⟩ := hr
  have z0 := (zP_1 h (show 0 < pk.length from h.1)).1
  have e0 : a ≤ a * zP pk 0 := Nat.le_mul_of_pos_right a z0
  have e1 : b ≤ b * zP pk 1 := by
    by_cases e : pk.length ≤ 1
    · rw [h2 e]; exact Nat.zero_le _
    · exact Nat.le_mul_of_pos_right b (zP_1 h (show 1 < pk.length by omega)).1
  have e2 : c ≤ c * zP pk 2 := by
    by_cases e : pk.length ≤ 2
    · rw [h3 e]; exact Nat.zero_le _
    · exact Nat.le_mul_of_pos_right c (zP_1 h (show 2 < pk.length by omega)).1
  omega
theorem wgt_le {pk : List (Nat × Nat)} (h : pkOk pk) {s a b c : Nat} (hr : Rch pk s a b c) : wgt pk a b c ≤ s * 549206125215000 := by
  have hn := Rch_n h hr
  have w0 := Nat.mul_le_mul_left a (wP_le h 0).1
  have w1 := Nat.mul_le_mul_left b (wP_le h 1).1
  have w2 := Nat.mul_le_mul_left c (wP_le h 2).1
  unfold wgt
  omega
/-- the least weight of those for which it holds -/
def isMn (pk : List (Nat × Nat)) (T : Nat → Nat → Nat → Prop) (o : Option Nat) : Prop := match o with
  | none => ∀ a b c, ¬ T a b c
  | some v => (∃ a b c, T a b c ∧ wgt pk a b c = v) ∧ ∀ a b c, T a b c → v ≤ wgt pk a b c
def mnO (x y : Option Nat) : Option Nat := match x, y with
  | none, y => y
  | some a, none => some a
  | some a, some b => some (if a ≤ b then a else b)
theorem isMn_or {pk : List (Nat × Nat)} {T U : Nat → Nat → Nat → Prop} {x y : Option Nat} (hx : isMn pk T x) (hy : isMn pk U y) : isMn pk (fun a b c => T a b c ∨ U a b c) (mnO x y) := by
  cases x with
  | none =>
    have hx : ∀ a b c, ¬ T a b c := hx
    cases y with
    | none => exact fun a b c z => z.elim (hx a b c) (hy a b c)
    | some v =>
      obtain ⟨⟨a, b, c, h1, h2⟩, h3⟩ := hy
      exact ⟨⟨a, b, c, Or.inr h1, h2⟩, fun a b c z => z.elim (fun q => absurd q (hx a b c)) (h3 a b c)⟩
  | some u =>
    obtain ⟨⟨a, b, c, h1, h2⟩, h3⟩ := hx
    cases y with
    | none =>
      have hy : ∀ a b c, ¬ U a b c := hy
      exact ⟨⟨a, b, c, Or.inl h1, h2⟩, fun a b c z => z.elim (h3 a b c) (fun q => absurd q (hy a b c))⟩
    | some v =>
      obtain ⟨⟨a2, b2, c2, g1, g2⟩, g3⟩ := hy
      show (∃ a b c, (T a b c ∨ U a b c) ∧ wgt pk a b c = if u ≤ v then u else v) ∧ ∀ a b c, (T a b c ∨ U a b c) → (if u ≤ v then u else v) ≤ wgt pk a b c
      by_cases e : u ≤ v
      · rw [if_pos e]
        exact ⟨⟨a, b, c, Or.inl h1, h2⟩, fun a b c z => z.elim (h3 a b c) (fun q => Nat.le_trans e (g3 a b c q))⟩
      · rw [if_neg e]
        exact ⟨⟨a2, b2, c2, Or.inr g1, g2⟩, fun a b c z => z.elim (fun q => Nat.le_trans (by omega) (h3 a b c q)) (g3 a b c)⟩
theorem isMn_i {pk : List (Nat × Nat)} {T U : Nat → Nat → Nat → Prop} {x : Option Nat} (h : ∀ a b c, T a b c ↔ U a b c) (hx : isMn pk T x) : isMn pk U x := by
  cases x with
  | none => exact fun a b c z => hx a b c ((h a b c).mpr z)
  | some v =>
    obtain ⟨⟨a, b, c, h1, h2⟩, h3⟩ := hx
    exact ⟨⟨a, b, c, (h a b c).mp h1, h2⟩, fun a b c z => h3 a b c ((h a b c).mpr z)⟩
def cnt (a b c k : Nat) : Nat := if k = 0 then a else if k = 1 then b else c
theorem mul_s1 (a z : Nat) : (a + 1) * z = a * z + z := Nat.succ_mul a z
/-- one pack more -/
theorem isMn_p {pk : List (Nat × Nat)} {s k : Nat} (hk : k < pk.length) (hk3 : k < 3) (hs : zP pk k ≤ s) {o : Option Nat} (h : isMn pk (Rch pk (s - zP pk k)) o) : isMn pk (fun a b c => Rch pk s a b c ∧ 1 ≤ cnt a b c k) (o.map (· + wP pk k)) := by
  have up : ∀ a b c, Rch pk (s - zP pk k) a b c → ∃ a' b' c', (Rch pk s a' b' c' ∧ 1 ≤ cnt a' b' c' k) ∧ wgt pk a' b' c' = wgt pk a b c + wP pk k := by
    intro a b c ⟨h1, h2, h3⟩
    have k3 : k = 0 ∨ k = 1 ∨ k = 2 := by omega
    rcases k3 with e | e | e
    · subst e
      have m := mul_s1 a (zP pk 0)
      have m2 := mul_s1 a (wP pk 0)
      exact ⟨a + 1, b, c, ⟨⟨by omega, h2, h3⟩, Nat.succ_le_succ (Nat.zero_le a)⟩, by unfold wgt; omega⟩
    · subst e
      have m := mul_s1 b (zP pk 1)
      have m2 := mul_s1 b (wP pk 1)
      exact ⟨a, b + 1, c, ⟨⟨by omega, fun z => by omega, h3⟩, Nat.succ_le_succ (Nat.zero_le b)⟩, by unfold wgt; omega⟩
    · subst e
      have m := mul_s1 c (zP pk 2)
      have m2 := mul_s1 c (wP pk 2)
      exact ⟨a, b, c + 1, ⟨⟨by omega, h2, fun z => by omega⟩, Nat.succ_le_succ (Nat.zero_le c)⟩, by unfold wgt; omega⟩
  have dn : ∀ a b c, Rch pk s a b c ∧ 1 ≤ cnt a b c k → ∃ a' b' c', Rch pk (s - zP pk k) a' b' c' ∧ wgt pk a b c = wgt pk a' b' c' + wP pk k := by
    intro a b c ⟨⟨h1, h2, h3⟩, h4⟩
    have k3 : k = 0 ∨ k = 1 ∨ k = 2 := by omega
    rcases k3 with e | e | e
    · subst e
      have h4 : 1 ≤ a := h4
      obtain ⟨a, rfl⟩ : ∃ x, a = x + 1 := ⟨a - 1, by omega⟩
      have m := mul_s1 a (zP pk 0)
      have m2 := mul_s1 a (wP pk 0)
      exact ⟨a, b, c, ⟨by omega, h2, h3⟩, by unfold wgt; omega⟩
    · subst e
      have h4 : 1 ≤ b := h4
      obtain ⟨b, rfl⟩ : ∃ x, b = x + 1 := ⟨b - 1, by omega⟩
      have m := mul_s1 b (zP pk 1)
      have m2 := mul_s1 b (wP pk 1)
      exact ⟨a, b, c, ⟨by omega, fun z => by omega, h3⟩, by unfold wgt; omega⟩
    · subst e
      have h4 : 1 ≤ c := h4
      obtain ⟨c, rfl⟩ : ∃ x, c = x + 1 := ⟨c - 1, by omega⟩
      have m := mul_s1 c (zP pk 2)
      have m2 := mul_s1 c (wP pk 2)
      exact ⟨a, b, c, ⟨by omega, h2, fun z => by omega⟩, by unfold wgt; omega⟩
  cases o with
  | none =>
    intro a b c z
    obtain ⟨a', b', c', q, _⟩ := dn a b c z
    exact h a' b' c' q
  | some v =>
    obtain ⟨⟨a, b, c, h1, h2⟩, h3⟩ := h
    obtain ⟨a', b', c', g1, g2⟩ := up a b c h1
    refine ⟨⟨a', b', c', g1, by rw [g2, h2]⟩, fun x y z q => ?_⟩
    obtain ⟨x', y', z', q1, q2⟩ := dn x y z q
    have := h3 x' y' z' q1
    show v + wP pk k ≤ wgt pk x y z
    rw [q2]
    omega
theorem isMn_l {pk : List (Nat × Nat)} {s k : Nat} (hs : s < zP pk k) (hk3 : k < 3) : isMn pk (fun a b c => Rch pk s a b c ∧ 1 ≤ cnt a b c k) none := by
  intro a b c ⟨⟨h1, h2, h3⟩, h4⟩
  have k3 : k = 0 ∨ k = 1 ∨ k = 2 := by omega
  rcases k3 with e | e | e
  · subst e
    have h4 : 1 ≤ a := h4
    have := Nat.le_mul_of_pos_left (zP pk 0) h4
    omega
  · subst e
    have h4 : 1 ≤ b := h4
    have := Nat.le_mul_of_pos_left (zP pk 1) h4
    omega
  · subst e
    have h4 : 1 ≤ c := h4
    have := Nat.le_mul_of_pos_left (zP pk 2) h4
    omega
/-- with one of the first packs in it -/
def TK (pk : List (Nat × Nat)) (s k a b c : Nat) : Prop := Rch pk s a b c ∧ ∃ j, j < k ∧ 1 ≤ cnt a b c j
theorem TK_0 (pk : List (Nat × Nat)) (s : Nat) : isMn pk (TK pk s 0) none := fun _ _ _ ⟨_, j, h, _⟩ => absurd h (Nat.not_lt_zero j)
theorem TK_s {pk : List (Nat × Nat)} {s k : Nat} {x y : Option Nat} (hx : isMn pk (TK pk s k) x) (hy : isMn pk (fun a b c => Rch pk s a b c ∧ 1 ≤ cnt a b c k) y) : isMn pk (TK pk s (k + 1)) (mnO x y) := by
  refine isMn_i (fun a b c => ?_) (isMn_or hx hy)
  constructor
  · rintro (⟨h1, j, h2, h3⟩ | ⟨h1, h2⟩)
    · exact ⟨h1, j, by omega, h3⟩
    · exact ⟨h1, k, by omega, h2⟩
  · rintro ⟨h1, j, h2, h3⟩
    by_cases e : j = k
    · subst e; exact Or.inr ⟨h1, h3⟩
    · exact Or.inl ⟨h1, j, by omega, h3⟩
theorem TK_all {pk : List (Nat × Nat)} (h : pkOk pk) {s : Nat} (hs : 1 ≤ s) {x : Option Nat} (hx : isMn pk (TK pk s pk.length) x) : isMn pk (Rch pk s) x := by
  refine isMn_i (fun a b c => ⟨fun z => z.1, fun z => ⟨z, ?_⟩⟩) hx
  obtain ⟨h1, h2, h3⟩ := z
  by_cases ea : 1 ≤ a
  · exact ⟨0, h.1, ea⟩
  · by_cases eb : 1 ≤ b
    · exact ⟨1, by
        rcases Nat.lt_or_ge 1 pk.length with q | q
        · exact q
        · have := h2 q; omega, eb⟩
    · by_cases ec : 1 ≤ c
      · exact ⟨2, by
          rcases Nat.lt_or_ge 2 pk.length with q | q
          · exact q
          · have := h3 q; omega, ec⟩
      · have a0 : a = 0 := by omega
        have b0 : b = 0 := by omega
        have c0 : c = 0 := by omega
        subst a0 b0 c0
        rw [Nat.zero_mul, Nat.zero_mul, Nat.zero_mul] at h1
        omega
theorem isMn_0 {pk : List (Nat × Nat)} (h : pkOk pk) : isMn pk (Rch pk 0) (some 0) := by
  refine ⟨⟨0, 0, 0, ⟨by rw [Nat.zero_mul, Nat.zero_mul, Nat.zero_mul], fun _ => rfl, fun _ => rfl⟩, by unfold wgt; rw [Nat.zero_mul, Nat.zero_mul, Nat.zero_mul]⟩, fun _ _ _ _ => Nat.zero_le _⟩
theorem isMn_u {pk : List (Nat × Nat)} {T : Nat → Nat → Nat → Prop} {x y : Option Nat} (hx : isMn pk T x) (hy : isMn pk T y) : x = y := by
  cases x with
  | none =>
    cases y with
    | none => rfl
    | some v =>
      obtain ⟨⟨a, b, c, h1, _⟩, _⟩ := hy
      exact absurd h1 (hx a b c)
  | some u =>
    obtain ⟨⟨a, b, c, h1, h2⟩, h3⟩ := hx
    cases y with
    | none => exact absurd h1 (hy a b c)
    | some v =>
      obtain ⟨⟨a2, b2, c2, g1, g2⟩, g3⟩ := hy
      have q1 := h3 a2 b2 c2 g1
      have q2 := g3 a b c h1
      congr 1
      omega
/-- what is bought: the least sum that is enough, the least weight -/
def Bst (pk : List (Nat × Nat)) (l B a b c : Nat) : Prop := l ≤ B ∧ B < l + 2000 ∧ (∀ s, l ≤ s → s < B → ∀ x y z, ¬ Rch pk s x y z) ∧ Rch pk B a b c ∧ ∀ x y z, Rch pk B x y z → wgt pk a b c ≤ wgt pk x y z
theorem least_nat (p : Nat → Prop) : ∀ m, p m → ∃ k, k ≤ m ∧ p k ∧ ∀ j, j < k → ¬ p j := by
  intro m
  induction m using Nat.strongRecOn with
  | _ m ih =>
    intro hm
    by_cases h : ∃ j, j < m ∧ p j
    · obtain ⟨j, h1, h2⟩ := h
      obtain ⟨k, k1, k2⟩ := ih j h1 h2
      exact ⟨k, by omega, k2⟩
    · exact ⟨m, Nat.le_refl m, hm, fun j hj z => h ⟨j, hj, z⟩⟩
theorem Bst_ex {pk : List (Nat × Nat)} (h : pkOk pk) (l : Nat) : ∃ B a b c, Bst pk l B a b c := by
  obtain ⟨z1, z2⟩ := zP_1 h (show 0 < pk.length from h.1)
  have hm : ∃ s, l ≤ s ∧ s < l + zP pk 0 ∧ ∃ x y z, Rch pk s x y z := by
    have e1 := Nat.div_add_mod (l + zP pk 0 - 1) (zP pk 0)
    have e2 := Nat.mod_lt (l + zP pk 0 - 1) z1
    refine ⟨(l + zP pk 0 - 1) / zP pk 0 * zP pk 0, ?_, ?_, (l + zP pk 0 - 1) / zP pk 0, 0, 0, ⟨by rw [Nat.zero_mul, Nat.zero_mul]; rfl, fun _ => rfl, fun _ => rfl⟩⟩
    · rw [Nat.mul_comm]; omega
    · rw [Nat.mul_comm]; omega
  obtain ⟨s, s1, s2, s3⟩ := hm
  obtain ⟨B, b1, ⟨b2, x, y, z, b3⟩, b4⟩ := least_nat (fun s => l ≤ s ∧ ∃ x y z, Rch pk s x y z) s ⟨s1, s3⟩
  obtain ⟨w, w1, ⟨a, b, c, w2, w3⟩, w4⟩ := least_nat (fun w => ∃ a b c, Rch pk B a b c ∧ wgt pk a b c = w) (wgt pk x y z) ⟨x, y, z, b3, rfl⟩
  refine ⟨B, a, b, c, b2, by omega, fun s h1 h2 x y z h3 => b4 s h2 ⟨h1, x, y, z, h3⟩, w2, fun x y z hr => ?_⟩
  rcases Nat.lt_or_ge (wgt pk x y z) (wgt pk a b c) with q | q
  · exact absurd ⟨x, y, z, hr, rfl⟩ (w4 _ (by omega))
  · exact q
/-- the price of a choice -/
def prc (pk : List (Nat × Nat)) (a b c : Nat) : Nat := a * rP pk 0 + b * rP pk 1 + c * rP pk 2
theorem mul_w (a r t w : Nat) (h : w + t = r * 549755813888 + 67108864) : a * w + a * t = a * r * 549755813888 + a * 67108864 := by
  rw [← Nat.mul_add, h, Nat.mul_add, Nat.mul_assoc]
theorem enc_d (pk : List (Nat × Nat)) {a b c : Nat} (ha : a ≤ 8191) (hb : b ≤ 8191) : 67108863 + wgt pk a b c = prc pk a b c * 549755813888 + (a + b + c) * 67108864 + (8191 - a) * 8192 + (8191 - b) := by
  have w0 : wP pk 0 + 8192 = rP pk 0 * 549755813888 + 67108864 := by
    have : wT 0 = 8192 := rfl
    unfold wP
    omega
  have w1 : wP pk 1 + 1 = rP pk 1 * 549755813888 + 67108864 := by
    have : wT 1 = 1 := rfl
    unfold wP
    omega
  have w2 : wP pk 2 + 0 = rP pk 2 * 549755813888 + 67108864 := by
    have : wT 2 = 0 := rfl
    unfold wP
    omega
  have m0 := mul_w a _ _ _ w0
  have m1 := mul_w b _ _ _ w1
  have m2 := mul_w c _ _ _ w2
  unfold wgt prc
  rw [Nat.mul_zero] at m2
  rw [Nat.mul_one] at m1
  omega
theorem prc_le {pk : List (Nat × Nat)} (h : pkOk pk) {s a b c : Nat} (hr : Rch pk s a b c) : prc pk a b c ≤ s * 999 := by
  have hn := Rch_n h hr
  have w0 := Nat.mul_le_mul_left a (rP_le h 0)
  have w1 := Nat.mul_le_mul_left b (rP_le h 1)
  have w2 := Nat.mul_le_mul_left c (rP_le h 2)
  unfold prc
  omega
/-- the same weight, the same choice -/
theorem wgt_inj {pk : List (Nat × Nat)} (h : pkOk pk) {s a b c x y z : Nat} (hs : s ≤ 8191) (h1 : Rch pk s a b c) (h2 : Rch pk s x y z) (e : wgt pk a b c = wgt pk x y z) : a = x ∧ b = y ∧ c = z := by
  have n1 := Rch_n h h1
  have n2 := Rch_n h h2
  have d1 := enc_d pk (c := c) (show a ≤ 8191 by omega) (show b ≤ 8191 by omega)
  have d2 := enc_d pk (c := z) (show x ≤ 8191 by omega) (show y ≤ 8191 by omega)
  omega
