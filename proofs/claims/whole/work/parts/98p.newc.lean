/-! the start: the reference is made -/
def wsY (C : Nat → Option rs_C) : Prop := (∃ V, C 61 = some (11, 43, V) ∧ wsT V 11 61 ∧ V 2 = .int (nI 0) ∧ V 4 = .int (nI 0) ∧ V 5 = .int (-5) ∧ V 9 = .int (nI 0) ∧ V 33 = .int (-1)) ∧ (∃ V, C 62 = some (12, 448, V) ∧ ∀ j, V j = .int (if j = 445 then -1 else 0)) ∧ wsC C 63 12 448 ∧ wsC C 64 12 3584 ∧ wsC C 65 12 60 ∧ wsC C 66 12 30 ∧ wsC C 67 13 12 ∧ wsC C 68 13 12 ∧ wsC C 69 12 9 ∧ wsC C 70 12 9 ∧ wsC C 71 13 9 ∧ wsC C 72 13 9 ∧ wsC C 73 14 6 ∧ wsC C 74 13 6 ∧ wsC C 75 13 6 ∧ wsC C 76 13 12 ∧ wsC C 77 13 12 ∧ wsC C 78 13 10000 ∧ wsC C 79 13 3 ∧ wsC C 80 13 3 ∧ wsC C 81 13 12 ∧ wsC C 82 13 8 ∧ wsC C 83 13 8
section
variable {C : Nat → Option rs_C} (d : Nat) (Q : rs_H → Option Value → Prop)
set_option maxHeartbeats 4000000 in
theorem ini_X12 (s : Nat) (h1 : C 61 = some (11, 43, fun j => defaultValue (rs_ty 11 j))) (hQ : ∀ C' s', s' ≤ s + 20000 → (∀ i, i < 61 → C' i = C i) → wsY C' → Q (C', 84, s') none) : rs_XM d yX12_init [.ref 61] (C, 62, s) Q := by
  rw [em_X12_init]
  simp (disch := omega) only [K_X12_init, lk_X12_init, XI, Nat.reduceAdd, Nat.reduceEqDiff, not_false_eq_true, nI_T1, nI_T0, true_and, and_true, rw_new, rw_up, vu_eq, vu_ne, h1, nI_cl, nI_lt0S, rs_in_t, Nat.reduceLeDiff]
  refine hQ _ _ (by omega) (fun i hi => by simp (disch := omega) only [vu_ne]) ⟨⟨_, rfl, ?_, rfl, rfl, rfl, rfl, rfl⟩, ⟨_, rfl, fun j => ?_⟩, ⟨_, rfl, wsT_i (Or.inl rfl) (fun j => ⟨_, rfl⟩)⟩, ⟨_, rfl, wsT_i (Or.inl rfl) (fun j => ⟨_, rfl⟩)⟩, ⟨_, rfl, wsT_i (Or.inl rfl) (fun j => ⟨_, rfl⟩)⟩, ⟨_, rfl, wsT_i (Or.inl rfl) (fun j => ⟨_, rfl⟩)⟩, ⟨_, rfl, wsT_j (fun j => ⟨_, rfl⟩)⟩, ⟨_, rfl, wsT_j (fun j => ⟨_, rfl⟩)⟩, ⟨_, rfl, wsT_i (Or.inl rfl) (fun j => ⟨_, rfl⟩)⟩, ⟨_, rfl, wsT_i (Or.inl rfl) (fun j => ⟨_, rfl⟩)⟩, ⟨_, rfl, wsT_j (fun j => ⟨_, rfl⟩)⟩, ⟨_, rfl, wsT_j (fun j => ⟨_, rfl⟩)⟩, ⟨_, rfl, wsT_i (Or.inr rfl) (fun j => ⟨_, rfl⟩)⟩, ⟨_, rfl, wsT_j (fun j => ⟨_, rfl⟩)⟩, ⟨_, rfl, wsT_j (fun j => ⟨_, rfl⟩)⟩, ⟨_, rfl, wsT_j (fun j => ⟨_, rfl⟩)⟩, ⟨_, rfl, wsT_j (fun j => ⟨_, rfl⟩)⟩, ⟨_, rfl, wsT_j (fun j => ⟨_, rfl⟩)⟩, ⟨_, rfl, wsT_j (fun j => ⟨_, rfl⟩)⟩, ⟨_, rfl, wsT_j (fun j => ⟨_, rfl⟩)⟩, ⟨_, rfl, wsT_j (fun j => ⟨_, rfl⟩)⟩, ⟨_, rfl, wsT_j (fun j => ⟨_, rfl⟩)⟩, ⟨_, rfl, wsT_j (fun j => ⟨_, rfl⟩)⟩⟩
  · intro j
    match j with
    | 0 => exact rfl
    | 1 => exact rfl
    | 2 => exact ⟨_, rfl⟩
    | 3 => exact rfl
    | 4 => exact ⟨_, rfl⟩
    | 5 => exact ⟨_, rfl⟩
    | 6 => exact ⟨_, rfl⟩
    | 7 => exact ⟨_, rfl⟩
    | 8 => exact ⟨_, rfl⟩
    | 9 => exact ⟨_, rfl⟩
    | 10 => exact rfl
    | 11 => exact ⟨_, rfl⟩
    | 12 => exact ⟨_, rfl⟩
    | 13 => exact ⟨_, rfl⟩
    | 14 => exact rfl
    | 15 => exact rfl
    | 16 => exact rfl
    | 17 => exact rfl
    | 18 => exact rfl
    | 19 => exact rfl
    | 20 => exact rfl
    | 21 => exact ⟨_, rfl⟩
    | 22 => exact rfl
    | 23 => exact rfl
    | 24 => exact rfl
    | 25 => exact rfl
    | 26 => exact rfl
    | 27 => exact rfl
    | 28 => exact ⟨_, rfl⟩
    | 29 => exact ⟨_, rfl⟩
    | 30 => exact rfl
    | 31 => exact rfl
    | 32 => exact ⟨_, rfl⟩
    | 33 => exact ⟨_, rfl⟩
    | 34 => exact ⟨_, rfl⟩
    | 35 => exact ⟨_, rfl⟩
    | 36 => exact ⟨_, rfl⟩
    | 37 => exact ⟨_, rfl⟩
    | 38 => exact ⟨_, rfl⟩
    | 39 => exact ⟨_, rfl⟩
    | 40 => exact rfl
    | 41 => exact rfl
    | 42 => exact rfl
    | _ + 43 => exact rfl
  · by_cases e : j = 445
    · rw [if_pos e, e]
      rfl
    · rw [if_neg e]
      show va_up _ _ _ _ = _
      rw [vu_ne _ _ e]
      rfl
end
