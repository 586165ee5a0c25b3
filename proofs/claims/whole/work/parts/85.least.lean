/-! the least sums of each remainder: all packs -/
def lowV (V U : Nat → Option Nat) : Prop := ∀ r v, V r = some v → ∃ u, U r = some u ∧ u ≤ v
theorem lowV_r (V : Nat → Option Nat) : lowV V V := fun _ v h => ⟨v, h, Nat.le_refl v⟩
theorem lowV_t {V U X : Nat → Option Nat} (h : lowV V U) (h2 : lowV U X) : lowV V X := fun r v e => by
  obtain ⟨u, u1, u2⟩ := h r v e
  obtain ⟨x, x1, x2⟩ := h2 r u u1
  exact ⟨x, x1, by omega⟩
theorem rlx_low (z w : Nat) (V : Nat → Option Nat) (r : Nat) : lowV V (rlx z w V r) := by
  rcases rlx_c z w V r with ⟨_, h⟩ | ⟨v, h1, h2, h3⟩
  · rw [h]; exact lowV_r V
  · rw [h3]
    intro x y hx
    unfold upV
    by_cases e : x = (r + w) % z
    · rw [if_pos e]
      rw [e] at hx
      have := h2 y hx
      exact ⟨_, rfl, by omega⟩
    · rw [if_neg e]
      exact ⟨y, hx, Nat.le_refl y⟩
/-- what holds of all that is there -/
def allV (G : Nat → Nat → Prop) (V : Nat → Option Nat) : Prop := ∀ r v, V r = some v → G r v
theorem rlx_all {G : Nat → Nat → Prop} {z w : Nat} (hG : ∀ r v, G r v → G ((r + w) % z) (v + w)) {V : Nat → Option Nat} (hV : allV G V) (r : Nat) : allV G (rlx z w V r) := by
  rcases rlx_c z w V r with ⟨_, h⟩ | ⟨v, h1, h2, h3⟩
  · rw [h]; exact hV
  · rw [h3]
    intro x y hx
    unfold upV at hx
    by_cases e : x = (r + w) % z
    · rw [if_pos e] at hx
      cases hx
      rw [e]
      exact hG r v (hV r v h1)
    · rw [if_neg e] at hx
      exact hV x y hx
theorem rW_low (z w ring : Nat) (V : Nat → Option Nat) : ∀ n, lowV V (rW z w ring V n)
  | 0 => lowV_r V
  | n + 1 => lowV_t (rW_low z w ring V n) (rlx_low z w _ _)
theorem rW_alV {G : Nat → Nat → Prop} {z w : Nat} (hG : ∀ r v, G r v → G ((r + w) % z) (v + w)) {V : Nat → Option Nat} (hV : allV G V) (ring : Nat) : ∀ n, allV G (rW z w ring V n)
  | 0 => hV
  | n + 1 => rlx_all hG (rW_alV hG hV ring n) _
def bdV (V : Nat → Option Nat) (B : Nat) : Prop := ∀ r v, V r = some v → v ≤ B
theorem rlx_bd {z w : Nat} {V : Nat → Option Nat} {B : Nat} (h : bdV V B) (r : Nat) : bdV (rlx z w V r) (B + w) := by
  rcases rlx_c z w V r with ⟨_, h0⟩ | ⟨v, h1, h2, h3⟩
  · rw [h0]; exact fun x y e => Nat.le_trans (h x y e) (Nat.le_add_right B w)
  · rw [h3]
    intro x y hx
    unfold upV at hx
    by_cases e : x = (r + w) % z
    · rw [if_pos e] at hx
      cases hx
      have := h r v h1
      omega
    · rw [if_neg e] at hx
      have := h x y hx
      omega
theorem rW_bd {z w : Nat} {V : Nat → Option Nat} {B : Nat} (h : bdV V B) (ring : Nat) : ∀ n, bdV (rW z w ring V n) (B + n * w)
  | 0 => by rw [Nat.zero_mul]; exact h
  | n + 1 => by
    have := rlx_bd (z := z) (w := w) (rW_bd (z := z) (w := w) h ring n) ((ring + n * w) % z)
    rw [Nat.succ_mul, ← Nat.add_assoc]
    exact this
theorem pos_g (z w ring n : Nat) : (ring + n * w) % z % Nat.gcd z w = ring % Nat.gcd z w := by
  rw [Nat.mod_mod_of_dvd _ (Nat.gcd_dvd_left z w)]
  obtain ⟨q, hq⟩ := Nat.gcd_dvd_right z w
  generalize Nat.gcd z w = g at *
  rw [hq, Nat.mul_left_comm, Nat.add_mul_mod_self_left]
/-- another ring is left alone -/
theorem rW_oth (z w ring : Nat) (V : Nat → Option Nat) {r : Nat} (hr : ¬ r % Nat.gcd z w = ring % Nat.gcd z w) : ∀ n, rW z w ring V n r = V r
  | 0 => rfl
  | n + 1 => by
    rw [rW_s]
    have ih := rW_oth z w ring V hr n
    rcases rlx_c z w (rW z w ring V n) ((ring + n * w) % z) with ⟨_, h⟩ | ⟨v, h1, h2, h3⟩
    · rw [h]; exact ih
    · rw [h3, pos_s]
      have : ¬ r = (ring + (n + 1) * w) % z := fun e => hr (by rw [e, pos_g])
      unfold upV
      rw [if_neg this]
      exact ih
def adP (z w : Nat) (V : Nat → Option Nat) : Nat → Nat → Option Nat
  | 0 => V
  | k + 1 => rW z w k (adP z w V k) (2 * (z / Nat.gcd z w))
theorem adP_s (z w : Nat) (V : Nat → Option Nat) (k : Nat) : adP z w V (k + 1) = rW z w k (adP z w V k) (2 * (z / Nat.gcd z w)) := rfl
theorem adP_sat {z w : Nat} (hz : 1 ≤ z) (hw : 1 ≤ w) (V : Nat → Option Nat) : ∀ k, k ≤ Nat.gcd z w → ∀ r, r < z → r % Nat.gcd z w < k → sat z w (adP z w V k) r
  | 0, _, r, _, h => absurd h (Nat.not_lt_zero _)
  | k + 1, hk, r, hr, h => by
    have hg : 1 ≤ Nat.gcd z w := Nat.gcd_pos_of_pos_left w hz
    have hm : z / Nat.gcd z w * Nat.gcd z w = z := Nat.div_mul_cancel (Nat.gcd_dvd_left z w)
    have hm1 : 1 ≤ z / Nat.gcd z w := Nat.div_pos (Nat.le_of_dvd hz (Nat.gcd_dvd_left z w)) hg
    rw [adP_s]
    by_cases e : r % Nat.gcd z w = k
    · obtain ⟨j, j1, j2⟩ := ring_cov hz w hr
      rw [e] at j2
      have := rW_all hw k (adP z w V k) hm1 (mul_ge hm) j j1
      rw [j2] at this
      exact this
    · have ih := adP_sat hz hw V k (by omega) r hr (by omega)
      have hkk : k % Nat.gcd z w = k := Nat.mod_eq_of_lt hk
      have o1 := rW_oth z w k (adP z w V k) (r := r) (by rw [hkk]; exact e) (2 * (z / Nat.gcd z w))
      have eg : (r + w) % z % Nat.gcd z w = r % Nat.gcd z w := by
        have := pos_g z w r 1
        rw [Nat.one_mul] at this
        exact this
      have o2 := rW_oth z w k (adP z w V k) (r := (r + w) % z) (by rw [hkk, eg]; exact e) (2 * (z / Nat.gcd z w))
      intro v hv
      rw [o1] at hv
      rw [o2]
      exact ih v hv
theorem adP_low (z w : Nat) (V : Nat → Option Nat) : ∀ k, lowV V (adP z w V k)
  | 0 => lowV_r V
  | k + 1 => lowV_t (adP_low z w V k) (rW_low z w k _ _)
theorem adP_alV {G : Nat → Nat → Prop} {z w : Nat} (hG : ∀ r v, G r v → G ((r + w) % z) (v + w)) {V : Nat → Option Nat} (hV : allV G V) : ∀ k, allV G (adP z w V k)
  | 0 => hV
  | k + 1 => rW_alV hG (adP_alV hG hV k) k _
theorem adP_bd {z w : Nat} {V : Nat → Option Nat} {B : Nat} (h : bdV V B) : ∀ k, bdV (adP z w V k) (B + k * (2 * (z / Nat.gcd z w)) * w)
  | 0 => by rw [Nat.zero_mul, Nat.zero_mul]; exact h
  | k + 1 => by
    have := rW_bd (z := z) (w := w) (adP_bd (z := z) (w := w) h k) k (2 * (z / Nat.gcd z w))
    rw [Nat.succ_mul, Nat.add_mul, ← Nat.add_assoc]
    exact this
/-- the packs behind the first one, one after another -/
def V0 : Nat → Option Nat := fun r => if r = 0 then some 0 else none
def lyK (pk : List (Nat × Nat)) : Nat → Nat → Option Nat
  | 0 => V0
  | j + 1 => adP (zP pk 0) (zP pk (j + 1)) (lyK pk j) (Nat.gcd (zP pk 0) (zP pk (j + 1)))
theorem lyK_s (pk : List (Nat × Nat)) (j : Nat) : lyK pk (j + 1) = adP (zP pk 0) (zP pk (j + 1)) (lyK pk j) (Nat.gcd (zP pk 0) (zP pk (j + 1))) := rfl
theorem lyK_bd {pk : List (Nat × Nat)} (h : pkOk pk) : ∀ j, j < pk.length → bdV (lyK pk j) (j * 8000000)
  | 0, _ => fun r v e => by
    have e : (if r = 0 then some 0 else none) = some v := e
    by_cases q : r = 0
    · rw [if_pos q] at e; cases e; exact Nat.zero_le _
    · rw [if_neg q] at e; cases e
  | j + 1, hj => by
    have ih := adP_bd (z := zP pk 0) (w := zP pk (j + 1)) (lyK_bd h j (by omega)) (Nat.gcd (zP pk 0) (zP pk (j + 1)))
    obtain ⟨a1, a2⟩ := zP_1 h (show 0 < pk.length from h.1)
    obtain ⟨b1, b2⟩ := zP_1 h hj
    have hm : zP pk 0 / Nat.gcd (zP pk 0) (zP pk (j + 1)) * Nat.gcd (zP pk 0) (zP pk (j + 1)) = zP pk 0 := Nat.div_mul_cancel (Nat.gcd_dvd_left _ _)
    have e : Nat.gcd (zP pk 0) (zP pk (j + 1)) * (2 * (zP pk 0 / Nat.gcd (zP pk 0) (zP pk (j + 1)))) = 2 * zP pk 0 := by
      rw [Nat.mul_left_comm, Nat.mul_comm (Nat.gcd _ _), hm]
    rw [e] at ih
    have e2 : 2 * zP pk 0 * zP pk (j + 1) ≤ 4000 * 2000 := Nat.mul_le_mul (by omega) b2
    intro r v hv
    have := ih r v hv
    omega
theorem lyK_sat {pk : List (Nat × Nat)} (h : pkOk pk) {j : Nat} (hj : j + 1 < pk.length) : ∀ r, r < zP pk 0 → sat (zP pk 0) (zP pk (j + 1)) (lyK pk (j + 1)) r := by
  intro r hr
  have z1 := (zP_1 h (show 0 < pk.length from h.1)).1
  rw [lyK_s]
  exact adP_sat z1 (zP_1 h hj).1 _ _ (Nat.le_refl _) r hr (Nat.mod_lt _ (Nat.gcd_pos_of_pos_left _ z1))
/-- the sums of the packs behind the first one -/
def sm2 (pk : List (Nat × Nat)) (j b c : Nat) : Prop := (j = 0 → b = 0) ∧ (j ≤ 1 → c = 0)
theorem lyK_up {pk : List (Nat × Nat)} (h : pkOk pk) : ∀ j, j < pk.length → ∀ b c, sm2 pk j b c → ∃ u, lyK pk j ((b * zP pk 1 + c * zP pk 2) % zP pk 0) = some u ∧ u ≤ b * zP pk 1 + c * zP pk 2 := by
  have z1 := (zP_1 h (show 0 < pk.length from h.1)).1
  have step : ∀ (j x s : Nat), j + 1 < pk.length → (∃ u, lyK pk (j + 1) (s % zP pk 0) = some u ∧ u ≤ s) → ∃ u, lyK pk (j + 1) ((s + x * zP pk (j + 1)) % zP pk 0) = some u ∧ u ≤ s + x * zP pk (j + 1) := by
    intro j x s hj h0
    induction x with
    | zero => rw [Nat.zero_mul]; exact h0
    | succ x ih =>
      obtain ⟨u, u1, u2⟩ := ih
      obtain ⟨v, v1, v2⟩ := lyK_sat h hj _ (Nat.mod_lt _ z1) u u1
      rw [Nat.mod_add_mod, Nat.add_assoc, ← Nat.succ_mul] at v1
      exact ⟨v, v1, by rw [Nat.succ_mul]; omega⟩
  have low : ∀ j s, j + 1 < pk.length → (∃ u, lyK pk j (s % zP pk 0) = some u ∧ u ≤ s) → ∃ u, lyK pk (j + 1) (s % zP pk 0) = some u ∧ u ≤ s := by
    intro j s hj ⟨u, u1, u2⟩
    obtain ⟨v, v1, v2⟩ := adP_low (zP pk 0) (zP pk (j + 1)) (lyK pk j) (Nat.gcd (zP pk 0) (zP pk (j + 1))) _ u u1
    exact ⟨v, v1, by omega⟩
  have zero : ∃ u, lyK pk 0 (0 % zP pk 0) = some u ∧ u ≤ 0 := ⟨0, by rw [Nat.zero_mod]; rfl, Nat.le_refl 0⟩
  intro j hj b c hs
  have h3 := h.2.1
  have j3 : j = 0 ∨ j = 1 ∨ j = 2 := by omega
  rcases j3 with e | e | e
  · subst e
    rw [hs.1 rfl, hs.2 (by decide), Nat.zero_mul, Nat.zero_mul]
    exact zero
  · subst e
    rw [hs.2 (by decide), Nat.zero_mul, Nat.add_zero]
    have := step 0 b 0 hj (low 0 0 hj zero)
    simp only [Nat.zero_add] at this
    exact this
  · subst e
    have a := step 0 b 0 (by omega) (low 0 0 (by omega) zero)
    simp only [Nat.zero_add] at a
    exact step 1 c _ hj (low 1 _ hj a)
theorem lyK_dn {pk : List (Nat × Nat)} (h : pkOk pk) : ∀ j, j < pk.length → allV (fun r v => ∃ b c, sm2 pk j b c ∧ b * zP pk 1 + c * zP pk 2 = v ∧ v % zP pk 0 = r) (lyK pk j) := by
  have h3 := h.2.1
  have zero : allV (fun r v => ∃ b c, sm2 pk 0 b c ∧ b * zP pk 1 + c * zP pk 2 = v ∧ v % zP pk 0 = r) (lyK pk 0) := fun r v e => by
    have e : (if r = 0 then some 0 else none) = some v := e
    by_cases q : r = 0
    · rw [if_pos q] at e
      cases e
      exact ⟨0, 0, ⟨fun _ => rfl, fun _ => rfl⟩, by rw [Nat.zero_mul, Nat.zero_mul], by rw [q, Nat.zero_mod]⟩
    · rw [if_neg q] at e; cases e
  have wk : ∀ j, allV (fun r v => ∃ b c, sm2 pk j b c ∧ b * zP pk 1 + c * zP pk 2 = v ∧ v % zP pk 0 = r) (lyK pk j) → allV (fun r v => ∃ b c, sm2 pk (j + 1) b c ∧ b * zP pk 1 + c * zP pk 2 = v ∧ v % zP pk 0 = r) (lyK pk j) := fun j hj r v e => by
    obtain ⟨b, c, h1, h2⟩ := hj r v e
    exact ⟨b, c, ⟨fun z => (by omega), fun z => h1.2 (by omega)⟩, h2⟩
  have one : allV (fun r v => ∃ b c, sm2 pk 1 b c ∧ b * zP pk 1 + c * zP pk 2 = v ∧ v % zP pk 0 = r) (lyK pk 1) := by
    refine adP_alV (fun r v hg => ?_) (wk 0 zero) _
    obtain ⟨b, c, h1, h2, h4⟩ := hg
    refine ⟨b + 1, c, ⟨fun z => (by omega), fun z => h1.2 z⟩, by rw [Nat.succ_mul]; show _ = v + zP pk 1; omega, ?_⟩
    rw [← h4, Nat.mod_add_mod]
  intro j hj
  have j3 : j = 0 ∨ j = 1 ∨ j = 2 := by omega
  rcases j3 with e | e | e
  · subst e; exact zero
  · subst e; exact one
  · subst e
    refine adP_alV (fun r v hg => ?_) (wk 1 one) _
    obtain ⟨b, c, h1, h2, h4⟩ := hg
    refine ⟨b, c + 1, ⟨fun z => (by omega), fun z => (by omega)⟩, by rw [Nat.succ_mul]; show _ = v + zP pk 2; omega, ?_⟩
    rw [← h4, Nat.mod_add_mod]
/-- which sums the packs reach -/
theorem lyK_iff {pk : List (Nat × Nat)} (h : pkOk pk) (s : Nat) : (∃ a b c, Rch pk s a b c) ↔ ∃ u, lyK pk (pk.length - 1) (s % zP pk 0) = some u ∧ u ≤ s := by
  have h1 := h.1
  have h3 := h.2.1
  have z1 := (zP_1 h (show 0 < pk.length from h.1)).1
  constructor
  · rintro ⟨a, b, c, r1, r2, r3⟩
    obtain ⟨u, u1, u2⟩ := lyK_up h (pk.length - 1) (by omega) b c ⟨fun z => r2 (by omega), fun z => r3 (by omega)⟩
    have e : s % zP pk 0 = (b * zP pk 1 + c * zP pk 2) % zP pk 0 := by
      rw [← r1, Nat.add_assoc, Nat.add_comm, Nat.add_mul_mod_self_right]
    rw [e]
    exact ⟨u, u1, by omega⟩
  · rintro ⟨u, u1, u2⟩
    obtain ⟨b, c, g1, g2, g3⟩ := lyK_dn h (pk.length - 1) (by omega) _ u u1
    have hd : (s - u) % zP pk 0 = 0 := Nat.sub_mod_eq_zero_of_mod_eq g3.symm
    have e := Nat.div_add_mod (s - u) (zP pk 0)
    refine ⟨(s - u) / zP pk 0, b, c, ?_, fun z => g1.1 (by omega), fun z => g1.2 (by omega)⟩
    rw [Nat.mul_comm ((s - u) / zP pk 0)]
    omega
