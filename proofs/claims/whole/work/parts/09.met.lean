/-! calls, returns, whole methods -/
set_option maxHeartbeats 4000000 in
theorem rs_exec_mono {y : MethodName} {q : rs_I} {L : rs_L} {st : List Value} {w : rs_H} {z : Nat × rs_L × List Value × rs_H} (h : rs_exec y q L st w = some (.inl z)) : w.2.1 ≤ z.2.2.2.2.1 ∧ w.2.2 ≤ z.2.2.2.2.2 := by
  obtain ⟨i, n, nx, t, cs, cv⟩ := q
  have same : ∀ {a : Nat} {b : rs_L} {c : List Value}, z = (a, b, c, w) → w.2.1 ≤ z.2.2.2.2.1 ∧ w.2.2 ≤ z.2.2.2.2.2 := by
    intro a b c e
    subst e
    exact ⟨Nat.le_refl _, Nat.le_refl _⟩
  have mp : ∀ {α : Type} {o : Option α} {f : α → Nat × rs_L × List Value}, o.map (fun r => (.inl ((f r).1, (f r).2.1, (f r).2.2, w) : rs_O)) = some (.inl z) → w.2.1 ≤ z.2.2.2.2.1 ∧ w.2.2 ≤ z.2.2.2.2.2 := by
    intro α o f e
    cases o with
    | none => cases e
    | some r => cases e; exact ⟨Nat.le_refl _, Nat.le_refl _⟩
  have alu : ∀ {i : Instr}, rs_exec y (i, n, nx, t, cs, cv) L st w = some (.inl z) → rs_exec y (i, n, nx, t, cs, cv) L st w = (rs_alu i st).map (fun r => (.inl (nx, L, r, w) : rs_O)) → w.2.1 ≤ z.2.2.2.2.1 ∧ w.2.2 ≤ z.2.2.2.2.2 := by
    intro i h1 h2
    rw [h2] at h1
    exact mp (f := fun s => (nx, L, s)) h1
  cases i
  case ldc j =>
    unfold rs_exec at h
    dsimp only at h
    split at h
    · cases h; exact same rfl
    · cases h
  case ldc_w j =>
    unfold rs_exec at h
    dsimp only at h
    split at h
    · cases h; exact same rfl
    · cases h
  case ldc2_w j =>
    unfold rs_exec at h
    dsimp only at h
    split at h
    · cases h; exact same rfl
    · cases h
  case iload j => exact mp (o := rs_load (.iload j) L) (f := fun v => (nx, L, v :: st)) h
  case iload_n j => exact mp (o := rs_load (.iload_n j) L) (f := fun v => (nx, L, v :: st)) h
  case lload j => exact mp (o := rs_load (.lload j) L) (f := fun v => (nx, L, v :: st)) h
  case lload_n j => exact mp (o := rs_load (.lload_n j) L) (f := fun v => (nx, L, v :: st)) h
  case aload j => exact mp (o := rs_load (.aload j) L) (f := fun v => (nx, L, v :: st)) h
  case aload_n j => exact mp (o := rs_load (.aload_n j) L) (f := fun v => (nx, L, v :: st)) h
  case istore j => cases st with
    | nil => cases h
    | cons v r => exact mp (o := rs_store (.istore j) L v) (f := fun l' => (nx, l', r)) h
  case istore_n j => cases st with
    | nil => cases h
    | cons v r => exact mp (o := rs_store (.istore_n j) L v) (f := fun l' => (nx, l', r)) h
  case lstore j => cases st with
    | nil => cases h
    | cons v r => exact mp (o := rs_store (.lstore j) L v) (f := fun l' => (nx, l', r)) h
  case lstore_n j => cases st with
    | nil => cases h
    | cons v r => exact mp (o := rs_store (.lstore_n j) L v) (f := fun l' => (nx, l', r)) h
  case astore j => cases st with
    | nil => cases h
    | cons v r => exact mp (o := rs_store (.astore j) L v) (f := fun l' => (nx, l', r)) h
  case astore_n j => cases st with
    | nil => cases h
    | cons v r => exact mp (o := rs_store (.astore_n j) L v) (f := fun l' => (nx, l', r)) h
  case iinc j v =>
    unfold rs_exec at h
    dsimp only at h
    split at h
    · exact mp (f := fun l' => (nx, l', st)) h
    · cases h
  case ifCond k o =>
    unfold rs_exec at h
    dsimp only at h
    split at h
    · cases h; exact same rfl
    · cases h
  case if_icmp k o =>
    unfold rs_exec at h
    dsimp only at h
    split at h
    · cases h; exact same rfl
    · cases h
  case ifnull o =>
    unfold rs_exec at h
    dsimp only at h
    split at h
    · cases h; exact same rfl
    · cases h; exact same rfl
    · cases h
  case ifnonnull o =>
    unfold rs_exec at h
    dsimp only at h
    split at h
    · cases h; exact same rfl
    · cases h; exact same rfl
    · cases h
  case tableswitch d lo hi offs =>
    unfold rs_exec at h
    dsimp only at h
    split at h
    · cases h; exact same rfl
    · cases h
  case getfield j => exact mp (o := rs_get (rs_fl y.cls j) st w) (f := fun s => (nx, L, s)) h
  case iaload => exact mp (o := rs_ald 12 st w) (f := fun s => (nx, L, s)) h
  case laload => exact mp (o := rs_ald 13 st w) (f := fun s => (nx, L, s)) h
  case baload => exact mp (o := rs_ald 14 st w) (f := fun s => (nx, L, s)) h
  case aaload => exact mp (o := rs_ald 99 st w) (f := fun s => (nx, L, s)) h
  case arraylength => exact mp (o := rs_alen st w) (f := fun s => (nx, L, s)) h
  case putfield j =>
    have h' : (rs_put (rs_pfl y j) st w).map (fun r => (.inl (nx, L, r.1, r.2) : rs_O)) = some (.inl z) := h
    cases hv : rs_put (rs_pfl y j) st w with
    | none => rw [hv] at h'; cases h'
    | some r => rw [hv] at h'; cases h'; exact ⟨Nat.le_of_eq (rs_put_nx hv).1.symm, Nat.le_of_eq (rs_put_nx hv).2.symm⟩
  case iastore =>
    have h' : (rs_ast 12 st w).map (fun r => (.inl (nx, L, r.1, r.2) : rs_O)) = some (.inl z) := h
    cases hv : rs_ast 12 st w with
    | none => rw [hv] at h'; cases h'
    | some r => rw [hv] at h'; cases h'; exact ⟨Nat.le_of_eq (rs_ast_nx hv).1.symm, Nat.le_of_eq (rs_ast_nx hv).2.symm⟩
  case lastore =>
    have h' : (rs_ast 13 st w).map (fun r => (.inl (nx, L, r.1, r.2) : rs_O)) = some (.inl z) := h
    cases hv : rs_ast 13 st w with
    | none => rw [hv] at h'; cases h'
    | some r => rw [hv] at h'; cases h'; exact ⟨Nat.le_of_eq (rs_ast_nx hv).1.symm, Nat.le_of_eq (rs_ast_nx hv).2.symm⟩
  case bastore =>
    have h' : (rs_ast 14 st w).map (fun r => (.inl (nx, L, r.1, r.2) : rs_O)) = some (.inl z) := h
    cases hv : rs_ast 14 st w with
    | none => rw [hv] at h'; cases h'
    | some r => rw [hv] at h'; cases h'; exact ⟨Nat.le_of_eq (rs_ast_nx hv).1.symm, Nat.le_of_eq (rs_ast_nx hv).2.symm⟩
  case aastore =>
    have h' : (rs_ast 99 st w).map (fun r => (.inl (nx, L, r.1, r.2) : rs_O)) = some (.inl z) := h
    cases hv : rs_ast 99 st w with
    | none => rw [hv] at h'; cases h'
    | some r => rw [hv] at h'; cases h'; exact ⟨Nat.le_of_eq (rs_ast_nx hv).1.symm, Nat.le_of_eq (rs_ast_nx hv).2.symm⟩
  case new j =>
    have h' : (rs_newo (rs_nw y.cls j) st w).map (fun r => (.inl (nx, L, r.1, r.2) : rs_O)) = some (.inl z) := h
    cases hv : rs_newo (rs_nw y.cls j) st w with
    | none => rw [hv] at h'; cases h'
    | some r =>
      rw [hv] at h'
      cases h'
      unfold rs_newo at hv
      split at hv
      · cases hv; exact ⟨Nat.le_succ _, Nat.le_add_right _ _⟩
      · cases hv
  case newarray j =>
    have h' : (rs_newa (rs_nk j) st w).map (fun r => (.inl (nx, L, r.1, r.2) : rs_O)) = some (.inl z) := h
    cases hv : rs_newa (rs_nk j) st w with
    | none => rw [hv] at h'; cases h'
    | some r =>
      rw [hv] at h'
      cases h'
      obtain ⟨k, n, r', -, -, -, -, rfl⟩ := rs_newa_s hv
      exact ⟨Nat.le_succ _, Nat.le_add_right _ _⟩
  case anewarray j =>
    have h' : (rs_newa (rs_na y.cls j) st w).map (fun r => (.inl (nx, L, r.1, r.2) : rs_O)) = some (.inl z) := h
    cases hv : rs_newa (rs_na y.cls j) st w with
    | none => rw [hv] at h'; cases h'
    | some r =>
      rw [hv] at h'
      cases h'
      obtain ⟨k, n, r', -, -, -, -, rfl⟩ := rs_newa_s hv
      exact ⟨Nat.le_succ _, Nat.le_add_right _ _⟩
  case invokespecial j =>
    unfold rs_exec at h
    dsimp only at h
    cases ho : rs_oi y.cls j with
    | false => rw [ho, cond_false] at h; exact (rs_call_no h).elim
    | true =>
      rw [ho, cond_true] at h
      split at h
      · split at h
        · cases h; exact same rfl
        · cases h
      · cases h
  case invokevirtual j => exact (rs_call_no (show rs_call (rs_lk 1 y.cls j) 1 nx st w = some (.inl z) from h)).elim
  case invokestatic j =>
    unfold rs_exec at h
    dsimp only at h
    split at h
    · exact (rs_call_no h).elim
    · exact mp (f := fun s => (nx, L, s)) h
  case ireturn => exact (rs_ret_no (by simp) h).elim
  case lreturn => exact (rs_ret_no (by simp) h).elim
  case areturn => exact (rs_ret_no (by simp) h).elim
  case return_ => exact (rs_ret_no (by simp) h).elim
  case iconst v => cases h; exact same rfl
  case bipush v => cases h; exact same rfl
  case sipush v => cases h; exact same rfl
  case lconst v => cases h; exact same rfl
  case goto o => cases h; exact same rfl
  all_goals exact alu h rfl
theorem rs_step_mono {y : MethodName} {pc : Nat} {L : rs_L} {st : List Value} {w : rs_H} {z : Nat × rs_L × List Value × rs_H} (h : rs_step y pc L st w = some (.inl z)) : w.2.1 ≤ z.2.2.2.2.1 ∧ w.2.2 ≤ z.2.2.2.2.2 := by
  unfold rs_step at h
  split at h
  · cases h
  · exact rs_exec_mono h
theorem rs_run_mono : ∀ (n d : Nat) (y : MethodName) (pc : Nat) (L : rs_L) (st : List Value) (w w' : rs_H) (v : Option Value), rs_run n d y pc L st w = some (w', v) → w.2.1 ≤ w'.2.1 ∧ w.2.2 ≤ w'.2.2 := by
  intro n
  induction n with
  | zero => intro d y pc L st w w' v h; cases h
  | succ n ih =>
    intro d y pc L st w w' v h
    rw [rs_run] at h
    cases hs : rs_step y pc L st w with
    | none => rw [hs] at h; cases h
    | some o =>
      rw [hs] at h
      rcases o with z | z | v0
      · have h1 := rs_step_mono hs
        have h2 := ih _ _ _ _ _ _ _ _ h
        exact ⟨Nat.le_trans h1.1 h2.1, Nat.le_trans h1.2 h2.2⟩
      · dsimp only at h
        cases d with
        | zero => cases h
        | succ d =>
          dsimp only at h
          cases he : rs_ent z.1 z.2.1 with
          | none => rw [he] at h; cases h
          | some l0 =>
            rw [he] at h
            dsimp only at h
            cases hr : rs_run n d z.1 0 l0 [] w with
            | none => rw [hr] at h; cases h
            | some u =>
              rw [hr] at h
              have h1 := ih _ _ _ _ _ _ _ _ hr
              have h2 := ih _ _ _ _ _ _ _ _ h
              exact ⟨Nat.le_trans h1.1 h2.1, Nat.le_trans h1.2 h2.2⟩
      · cases h
        exact ⟨Nat.le_refl _, Nat.le_refl _⟩
