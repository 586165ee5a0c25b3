/-! the reference's choice: one pack's count goes all around, the other's is the fewest -/
def isFw (left zt zb : Nat) (o : Option Nat) : Prop := match o with
  | none => ∀ f, ¬ (f * zt ≤ left ∧ zb ∣ left - f * zt)
  | some f => (f * zt ≤ left ∧ zb ∣ left - f * zt) ∧ ∀ f', f' * zt ≤ left ∧ zb ∣ left - f' * zt → f ≤ f'
theorem isFw_ex (left zt zb : Nat) : ∃ o, isFw left zt zb o := by
  by_cases h : ∃ f, f * zt ≤ left ∧ zb ∣ left - f * zt
  · obtain ⟨f, hf⟩ := h
    obtain ⟨k, k1, k2, k3⟩ := least_nat (fun f => f * zt ≤ left ∧ zb ∣ left - f * zt) f hf
    refine ⟨some k, k2, fun f' h' => ?_⟩
    rcases Nat.lt_or_ge f' k with q | q
    · exact absurd h' (k3 f' q)
    · exact q
  · exact ⟨none, fun f z => h ⟨f, z⟩⟩
theorem isFw_u {left zt zb : Nat} {o o' : Option Nat} (h : isFw left zt zb o) (h' : isFw left zt zb o') : o = o' := by
  cases o with
  | none =>
    cases o' with
    | none => rfl
    | some f => exact absurd h'.1 (h f)
  | some f =>
    cases o' with
    | none => exact absurd h.1 (h' f)
    | some f' =>
      have a := h.2 f' h'.1
      have b := h'.2 f h.1
      congr 1
      omega
/-- a choice that is looked at -/
def isCd (B zo zt zb e n f v : Nat) : Prop := n < e ∧ n * zo ≤ B ∧ isFw (B - n * zo) zt zb (some f) ∧ n * zo + f * zt + v * zb = B
theorem cd_of {B zo zt zb e n : Nat} (hzb : 1 ≤ zb) {f : Nat} (h1 : n < e) (h2 : n * zo ≤ B) (h3 : isFw (B - n * zo) zt zb (some f)) : isCd B zo zt zb e n f ((B - n * zo - f * zt) / zb) := by
  refine ⟨h1, h2, h3, ?_⟩
  obtain ⟨⟨a1, q, a2⟩, _⟩ := h3
  rw [a2, Nat.mul_div_cancel_left _ hzb, Nat.mul_comm q]
  omega
/-- no choice weighs less than those that are looked at -/
theorem cd_all {B zo zt zb wo wt wb e : Nat} (hzb : 1 ≤ zb) (ho : zo * wb ≤ zb * wo) (ht : zt * wb ≤ zb * wt) : ∀ m x y v, x ≤ m → (e = zb ∨ (x = 0 ∧ 1 ≤ e)) → x * zo + y * zt + v * zb = B → ∃ n f u, isCd B zo zt zb e n f u ∧ n * wo + f * wt + u * wb ≤ x * wo + y * wt + v * wb := by
  intro m
  induction m using Nat.strongRecOn with
  | _ m ih =>
    intro x y v hxm hx hB
    by_cases hlt : x < e
    · obtain ⟨o, ho2⟩ := isFw_ex (B - x * zo) zt zb
      have hy : y * zt ≤ B - x * zo ∧ zb ∣ B - x * zo - y * zt := ⟨by omega, v, by rw [Nat.mul_comm zb]; omega⟩
      cases o with
      | none => exact absurd hy (ho2 y)
      | some f =>
        have hc := cd_of hzb hlt (show x * zo ≤ B by omega) ho2
        generalize (B - x * zo - f * zt) / zb = u at hc
        refine ⟨x, f, u, hc, ?_⟩
        have hfy := ho2.2 y hy
        have e1 := hc.2.2.2
        obtain ⟨k, rfl⟩ : ∃ k, y = f + k := ⟨y - f, by omega⟩
        rw [Nat.add_mul] at hB
        have hvu : v * zb + k * zt = u * zb := by omega
        have huv : v ≤ u := Nat.le_of_mul_le_mul_right (show v * zb ≤ u * zb by omega) hzb
        obtain ⟨j, rfl⟩ : ∃ j, u = v + j := ⟨u - v, by omega⟩
        rw [Nat.add_mul] at hvu
        have hk : k * zt = j * zb := by omega
        have key : j * wb ≤ k * wt := by
          refine Nat.le_of_mul_le_mul_right (c := zb) ?_ hzb
          have a1 : j * wb * zb = k * (zt * wb) := by
            rw [Nat.mul_right_comm, ← hk, Nat.mul_assoc]
          have a2 : k * wt * zb = k * (zb * wt) := by rw [Nat.mul_assoc, Nat.mul_comm wt]
          rw [a1, a2]
          exact Nat.mul_le_mul_left k ht
        rw [Nat.add_mul, Nat.add_mul]
        omega
    · have hez : e = zb := by
        rcases hx with q | ⟨q1, q2⟩
        · exact q
        · omega
      have hex : zb ≤ x := by omega
      obtain ⟨x', rfl⟩ : ∃ k, x = k + zb := ⟨x - zb, by omega⟩
      rw [Nat.add_mul] at hB
      have h2 : x' * zo + y * zt + (v + zo) * zb = B := by
        rw [Nat.add_mul, Nat.mul_comm zo]
        omega
      obtain ⟨n, f, u, g1, g2⟩ := ih x' (by omega) x' y (v + zo) (Nat.le_refl _) (Or.inl hez) h2
      refine ⟨n, f, u, g1, ?_⟩
      rw [Nat.add_mul v zo wb] at g2
      rw [Nat.add_mul]
      omega
/-- which pack is sooner -/
def sn (pk : List (Nat × Nat)) (a b : Nat) : Bool := if rP pk a * zP pk b = rP pk b * zP pk a then (if zP pk a = zP pk b then decide (a < b) else decide (zP pk b < zP pk a)) else decide (rP pk a * zP pk b < rP pk b * zP pk a)
theorem wz (pk : List (Nat × Nat)) (a m : Nat) : wP pk a * m + wT a * m = rP pk a * m * 549755813888 + 67108864 * m := by
  have h : wP pk a + wT a = rP pk a * 549755813888 + 67108864 := by
    have := wT_le a
    unfold wP
    omega
  rw [← Nat.add_mul, h, Nat.add_mul, Nat.mul_right_comm]
theorem wT_lt {a b : Nat} (h : a < b) (hb : b < 3) : wT b < wT a := by
  have : (a = 0 ∧ b = 1) ∨ (a = 0 ∧ b = 2) ∨ (a = 1 ∧ b = 2) := by omega
  rcases this with ⟨e, e2⟩ | ⟨e, e2⟩ | ⟨e, e2⟩ <;> subst e <;> subst e2 <;> decide
theorem sn_t {pk : List (Nat × Nat)} (h : pkOk pk) {a b : Nat} (ha : a < pk.length) (hb : b < pk.length) (hs : sn pk a b = true) : wP pk a * zP pk b ≤ wP pk b * zP pk a := by
  obtain ⟨a1, a2⟩ := zP_1 h ha
  obtain ⟨b1, b2⟩ := zP_1 h hb
  have h3 := h.2.1
  have e1 := wz pk a (zP pk b)
  have e2 := wz pk b (zP pk a)
  have t1 : wT b * zP pk a ≤ 8192 * 2000 := Nat.mul_le_mul (wT_le b) a2
  unfold sn at hs
  by_cases q : rP pk a * zP pk b = rP pk b * zP pk a
  · rw [if_pos q] at hs
    rw [q] at e1
    by_cases q2 : zP pk a = zP pk b
    · rw [if_pos q2, decide_eq_true_eq] at hs
      have t2 : wT b * zP pk a ≤ wT a * zP pk a := Nat.mul_le_mul_right _ (Nat.le_of_lt (wT_lt hs (by omega)))
      rw [← q2] at e1 ⊢
      omega
    · rw [if_neg q2, decide_eq_true_eq] at hs
      omega
  · rw [if_neg q, decide_eq_true_eq] at hs
    omega
theorem sn_f {pk : List (Nat × Nat)} (h : pkOk pk) {a b : Nat} (ha : a < pk.length) (hb : b < pk.length) (hs : ¬ sn pk a b = true) : wP pk b * zP pk a ≤ wP pk a * zP pk b := by
  by_cases e : a = b
  · rw [e]; exact Nat.le_refl _
  · refine sn_t h hb ha ?_
    unfold sn at hs ⊢
    by_cases q : rP pk a * zP pk b = rP pk b * zP pk a
    · rw [if_pos q] at hs
      rw [if_pos q.symm]
      by_cases q2 : zP pk a = zP pk b
      · rw [if_pos q2, decide_eq_true_eq] at hs
        rw [if_pos q2.symm, decide_eq_true_eq]
        omega
      · rw [if_neg q2, decide_eq_true_eq] at hs
        rw [if_neg (fun z => q2 z.symm), decide_eq_true_eq]
        omega
    · rw [if_neg q, decide_eq_true_eq] at hs
      rw [if_neg (fun z => q z.symm), decide_eq_true_eq]
      omega
/-- the pack by which all is divided -/
def bp (pk : List (Nat × Nat)) : Nat → Nat
  | 0 => 0
  | j + 1 => if sn pk (j + 1) (bp pk j) = true then j + 1 else bp pk j
theorem bp_s (pk : List (Nat × Nat)) (j : Nat) : bp pk (j + 1) = if sn pk (j + 1) (bp pk j) = true then j + 1 else bp pk j := rfl
theorem bp_le (pk : List (Nat × Nat)) : ∀ j, bp pk j ≤ j
  | 0 => Nat.le_refl 0
  | j + 1 => by
    rw [bp_s]
    split
    · exact Nat.le_refl _
    · exact Nat.le_succ_of_le (bp_le pk j)
theorem bp_ok {pk : List (Nat × Nat)} (h : pkOk pk) : ∀ j, j < pk.length → ∀ i, i ≤ j → wP pk (bp pk j) * zP pk i ≤ wP pk i * zP pk (bp pk j)
  | 0, _, i, hi => by
    have : i = 0 := by omega
    subst this
    exact Nat.le_refl _
  | j + 1, hj, i, hi => by
    have ih := bp_ok h j (by omega)
    have hb := bp_le pk j
    have z1 := (zP_1 h (show bp pk j < pk.length by omega)).1
    rw [bp_s]
    by_cases e : sn pk (j + 1) (bp pk j) = true
    · rw [if_pos e]
      by_cases ei : i = j + 1
      · rw [ei]; exact Nat.le_refl _
      · have h1 := ih i (by omega)
        have h2 := sn_t h hj (show bp pk j < pk.length by omega) e
        refine Nat.le_of_mul_le_mul_right (c := zP pk (bp pk j)) ?_ z1
        calc wP pk (j + 1) * zP pk i * zP pk (bp pk j) = wP pk (j + 1) * zP pk (bp pk j) * zP pk i := Nat.mul_right_comm _ _ _
          _ ≤ wP pk (bp pk j) * zP pk (j + 1) * zP pk i := Nat.mul_le_mul_right _ h2
          _ = wP pk (bp pk j) * zP pk i * zP pk (j + 1) := Nat.mul_right_comm _ _ _
          _ ≤ wP pk i * zP pk (bp pk j) * zP pk (j + 1) := Nat.mul_le_mul_right _ h1
          _ = wP pk i * zP pk (j + 1) * zP pk (bp pk j) := Nat.mul_right_comm _ _ _
    · rw [if_neg e]
      by_cases ei : i = j + 1
      · rw [ei]; exact sn_f h hj (show bp pk j < pk.length by omega) e
      · exact ih i (by omega)
