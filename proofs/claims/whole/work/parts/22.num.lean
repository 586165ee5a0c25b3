/-! numbers: nI n and lN n for naturals; truth as an int -/
def rs_b (p : Prop) [Decidable p] : Int32 := if p then nI 1 else nI 0
theorem rs_b_t {p : Prop} [Decidable p] (h : p) : rs_b p = nI 1 := if_pos h
theorem rs_b_f {p : Prop} [Decidable p] (h : ¬ p) : rs_b p = nI 0 := if_neg h
theorem rs_b_0 (p : Prop) [Decidable p] : (rs_b p = 0) ↔ ¬ p := by
  unfold rs_b
  by_cases h : p
  · rw [if_pos h]; exact ⟨fun z => absurd z (by decide), fun z => absurd h z⟩
  · rw [if_neg h]; exact ⟨fun _ => h, fun _ => rfl⟩
theorem rs_b_ok (p : Prop) [Decidable p] : rs_b p = 0 ∨ rs_b p = 1 := by
  unfold rs_b
  by_cases h : p
  · rw [if_pos h]; exact Or.inr rfl
  · rw [if_neg h]; exact Or.inl rfl
theorem nI_T1 : (nI 1 = 0 ∨ nI 1 = 1) ↔ True := ⟨fun _ => trivial, fun _ => Or.inr rfl⟩
theorem nI_T0 : (nI 0 = 0 ∨ nI 0 = 1) ↔ True := ⟨fun _ => trivial, fun _ => Or.inl rfl⟩
theorem rs_in_nI {j n : Nat} (h : j < n) (hn : n < 2 ^ 31) : rs_in (nI j) n := by
  unfold rs_in
  have hj : j < 2 ^ 31 := by omega
  rw [nI_clamp hj]
  exact ⟨nI_pos hj, h⟩
theorem nI_lt0 {n : Nat} (h : n < 2 ^ 31) : (nI n < 0) ↔ False := ⟨fun z => nI_pos h z, fun z => z.elim⟩
theorem nI_eq0 {n : Nat} (h : n < 2 ^ 31) : (nI n = 0) ↔ n = 0 := by
  rw [← nI_0]
  exact nI_eq h (by decide)
theorem nI_0le {n : Nat} (h : n < 2 ^ 31) : (0 ≤ nI n) ↔ True := ⟨fun _ => trivial, fun _ => nI_pos' h⟩
theorem nI_addS (a b : Nat) : nI a + nI b = nI (a + b) := nI_add a b
theorem nI_mulS (a b : Nat) : nI a * nI b = nI (a * b) := pk_mul a b
/-- an int between two naturals is a natural -/
theorem nI_ge0 {x : Int32} (h : nI 0 ≤ x) : ∃ n, n < 2 ^ 31 ∧ x = nI n := by
  obtain ⟨j, h1, h2⟩ := nI_of (x := x) (by
    rw [nI_0] at h
    exact fun z => absurd h (by
      rw [Int32.not_le]
      exact z))
  exact ⟨j, h1, h2⟩
theorem nI_within {x : Int32} {a b : Nat} (ha : a < 2 ^ 31) (hb : b < 2 ^ 31) : (nI a ≤ x ∧ x ≤ nI b) ↔ ∃ n, a ≤ n ∧ n ≤ b ∧ x = nI n := by
  constructor
  · rintro ⟨h1, h2⟩
    have h0 : nI 0 ≤ x := by
      refine Int32.le_trans ?_ h1
      exact nI_le (Nat.zero_le _) ha
    obtain ⟨n, hn, rfl⟩ := nI_ge0 h0
    exact ⟨n, (nI_leI ha hn).mp h1, (nI_leI hn hb).mp h2, rfl⟩
  · rintro ⟨n, h1, h2, rfl⟩
    exact ⟨nI_le h1 (by omega), nI_le h2 hb⟩
theorem s_X11_isWithin (d : Nat) (w : rs_H) (Q : rs_H → Option Value → Prop) (a b c : Int32) : rs_XM d yX11_isWithin [.int a, .int b, .int c] w Q ↔ Q w (some (.int (rs_b (b ≤ a ∧ a ≤ c)))) := by
  rw [em_X11_isWithin]
  simp only [K_X11_isWithin, lk_X11_isWithin, XI, Nat.reduceAdd, Nat.reduceEqDiff, not_false_eq_true, nI_T1, nI_T0, true_and, and_true]
  by_cases h1 : a < b
  · rw [if_pos h1, rs_b_f (fun z => absurd h1 (Int32.not_lt.mpr z.1))]
  · rw [if_neg h1]
    by_cases h2 : c < a
    · rw [if_pos h2, rs_b_f (fun z => absurd h2 (Int32.not_lt.mpr z.2))]
    · rw [if_neg h2, rs_b_t ⟨Int32.not_lt.mp h1, Int32.not_lt.mp h2⟩]
theorem s_X0_up (d : Nat) (w : rs_H) (Q : rs_H → Option Value → Prop) {q : Nat × Nat} (hq : isF q) : rs_XM d yX0_up [.long (pkF q)] w Q ↔ Q w (some (.int (nI q.1))) := by
  rw [em_X0_up]
  simp only [K_X0_up, lk_X0_up, XI, Nat.reduceAdd, Nat.reduceEqDiff, not_false_eq_true, nI_T1, nI_T0, true_and, and_true, pk_up hq]
theorem s_X0_down (d : Nat) (w : rs_H) (Q : rs_H → Option Value → Prop) {q : Nat × Nat} (hq : isF q) : rs_XM d yX0_down [.long (pkF q)] w Q ↔ Q w (some (.int (nI q.2))) := by
  rw [em_X0_down]
  simp only [K_X0_down, lk_X0_down, XI, Nat.reduceAdd, Nat.reduceEqDiff, not_false_eq_true, nI_T1, nI_T0, true_and, and_true, pk_down hq]
