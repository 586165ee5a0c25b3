/-! the script's cell is never written; what a method answers is of its kind -/
def rs_k0 (c0 : rs_C) (w : rs_H) : Prop := w.1 0 = some c0 ∧ 12 ≤ c0.1 ∧ 0 < w.2.1
theorem k0_up {c0 : rs_C} {w : rs_H} (h : rs_k0 c0 w) {q : Nat} {c : rs_C} (hq : ¬ q = 0) : rs_k0 c0 (rs_up w q c) := by
  refine ⟨?_, h.2.1, h.2.2⟩
  show va_up w.1 q (some c) 0 = some c0
  rw [vu_ne _ _ (fun e => hq e.symm)]
  exact h.1
theorem k0_new {c0 : rs_C} {w : rs_H} (h : rs_k0 c0 w) {c : rs_C} : rs_k0 c0 (rs_new w c) := by
  refine ⟨?_, h.2.1, Nat.succ_pos _⟩
  show va_up w.1 w.2.1 (some c) 0 = some c0
  rw [vu_ne _ _ (Nat.ne_of_lt h.2.2)]
  exact h.1
theorem k0_put {c0 : rs_C} {y : MethodName} {j : Nat} {st : List Value} {w : rs_H} {r : List Value × rs_H} (hv : rs_put (rs_pfl y j) st w = some r) (hb : rs_k0 c0 w) : rs_k0 c0 r.2 := by
  unfold rs_put at hv
  split at hv
  · rename_i f v q s hf
    split at hv
    · rename_i c hc
      split at hv
      · rename_i hk
        cases hv
        refine k0_up hb (fun e => ?_)
        rw [e, hb.1] at hc
        cases hc
        obtain ⟨fin, h1, -⟩ := rs_pfl_s hf
        obtain ⟨r0, h2, -⟩ := rs_fl_s h1
        have h3 := rs_clt h2
        have h4 := hb.2.1
        have h5 : c0.1 = f.1 := hk.1
        have h6 : f.1 < 12 := h3
        omega
      · cases hv
    · cases hv
  · cases hv
theorem k0_ast {c0 : rs_C} {k : Nat} {st : List Value} {w : rs_H} {r : List Value × rs_H} (hv : rs_ast k st w = some r) (hb : rs_k0 c0 w) : rs_k0 c0 r.2 := by
  unfold rs_ast at hv
  split at hv
  · split at hv
    · split at hv
      · rename_i hk
        cases hv
        exact k0_up hb hk.1.1
      · cases hv
    · cases hv
  · cases hv
theorem k0_newo {c0 : rs_C} {y : MethodName} {j : Nat} {st : List Value} {w : rs_H} {r : List Value × rs_H} (hv : rs_newo (rs_nw y.cls j) st w = some r) (hb : rs_k0 c0 w) : rs_k0 c0 r.2 := by
  unfold rs_newo at hv
  split at hv
  · cases hv
    exact k0_new hb
  · cases hv
theorem k0_newa {c0 : rs_C} {kd : Option Nat} {st : List Value} {w : rs_H} {r : List Value × rs_H} (hv : rs_newa kd st w = some r) (hb : rs_k0 c0 w) : rs_k0 c0 r.2 := by
  obtain ⟨k, n, r', h1, -, -, -, rfl⟩ := rs_newa_s hv
  exact k0_new hb
set_option maxHeartbeats 4000000 in
theorem rs_exec_k0 {c0 : rs_C} {y : MethodName} {q : rs_I} {L : rs_L} {st : List Value} {w : rs_H} {z : Nat × rs_L × List Value × rs_H} (h : rs_exec y q L st w = some (.inl z)) (hb : rs_k0 c0 w) : rs_k0 c0 z.2.2.2 := by
  obtain ⟨i, n, nx, t, cs, cv⟩ := q
  have same : ∀ {a : Nat} {b : rs_L} {c : List Value}, z = (a, b, c, w) → rs_k0 c0 z.2.2.2 := by
    intro a b c e
    subst e
    exact hb
  have mp : ∀ {α : Type} {o : Option α} {f : α → Nat × rs_L × List Value}, o.map (fun r => (.inl ((f r).1, (f r).2.1, (f r).2.2, w) : rs_O)) = some (.inl z) → rs_k0 c0 z.2.2.2 := by
    intro α o f e
    cases o with
    | none => cases e
    | some r => cases e; exact hb
  have alu : ∀ {i : Instr}, rs_exec y (i, n, nx, t, cs, cv) L st w = some (.inl z) → rs_exec y (i, n, nx, t, cs, cv) L st w = (rs_alu i st).map (fun r => (.inl (nx, L, r, w) : rs_O)) → rs_k0 c0 z.2.2.2 := by
    intro i h1 h2
    rw [h2] at h1
    exact mp (f := fun s => (nx, L, s)) h1
  cases i
  case ldc j =>
    unfold rs_exec at h
    dsimp only at h
    split at h
    · cases h; exact same rfl
    · cases h
  case ldc_w j =>
    unfold rs_exec at h
    dsimp only at h
    split at h
    · cases h; exact same rfl
    · cases h
  case ldc2_w j =>
    unfold rs_exec at h
    dsimp only at h
    split at h
    · cases h; exact same rfl
    · cases h
  case iload j => exact mp (o := rs_load (.iload j) L) (f := fun v => (nx, L, v :: st)) h
  case iload_n j => exact mp (o := rs_load (.iload_n j) L) (f := fun v => (nx, L, v :: st)) h
  case lload j => exact mp (o := rs_load (.lload j) L) (f := fun v => (nx, L, v :: st)) h
  case lload_n j => exact mp (o := rs_load (.lload_n j) L) (f := fun v => (nx, L, v :: st)) h
  case aload j => exact mp (o := rs_load (.aload j) L) (f := fun v => (nx, L, v :: st)) h
  case aload_n j => exact mp (o := rs_load (.aload_n j) L) (f := fun v => (nx, L, v :: st)) h
  case istore j => cases st with
    | nil => cases h
    | cons v r => exact mp (o := rs_store (.istore j) L v) (f := fun l' => (nx, l', r)) h
  case istore_n j => cases st with
    | nil => cases h
    | cons v r => exact mp (o := rs_store (.istore_n j) L v) (f := fun l' => (nx, l', r)) h
  case lstore j => cases st with
    | nil => cases h
    | cons v r => exact mp (o := rs_store (.lstore j) L v) (f := fun l' => (nx, l', r)) h
  case lstore_n j => cases st with
    | nil => cases h
    | cons v r => exact mp (o := rs_store (.lstore_n j) L v) (f := fun l' => (nx, l', r)) h
  case astore j => cases st with
    | nil => cases h
    | cons v r => exact mp (o := rs_store (.astore j) L v) (f := fun l' => (nx, l', r)) h
  case astore_n j => cases st with
    | nil => cases h
    | cons v r => exact mp (o := rs_store (.astore_n j) L v) (f := fun l' => (nx, l', r)) h
  case iinc j v =>
    unfold rs_exec at h
    dsimp only at h
    split at h
    · exact mp (f := fun l' => (nx, l', st)) h
    · cases h
  case ifCond k o =>
    unfold rs_exec at h
    dsimp only at h
    split at h
    · cases h; exact same rfl
    · cases h
  case if_icmp k o =>
    unfold rs_exec at h
    dsimp only at h
    split at h
    · cases h; exact same rfl
    · cases h
  case ifnull o =>
    unfold rs_exec at h
    dsimp only at h
    split at h
    · cases h; exact same rfl
    · cases h; exact same rfl
    · cases h
  case ifnonnull o =>
    unfold rs_exec at h
    dsimp only at h
    split at h
    · cases h; exact same rfl
    · cases h; exact same rfl
    · cases h
  case tableswitch d lo hi offs =>
    unfold rs_exec at h
    dsimp only at h
    split at h
    · cases h; exact same rfl
    · cases h
  case getfield j => exact mp (o := rs_get (rs_fl y.cls j) st w) (f := fun s => (nx, L, s)) h
  case iaload => exact mp (o := rs_ald 12 st w) (f := fun s => (nx, L, s)) h
  case laload => exact mp (o := rs_ald 13 st w) (f := fun s => (nx, L, s)) h
  case baload => exact mp (o := rs_ald 14 st w) (f := fun s => (nx, L, s)) h
  case aaload => exact mp (o := rs_ald 99 st w) (f := fun s => (nx, L, s)) h
  case arraylength => exact mp (o := rs_alen st w) (f := fun s => (nx, L, s)) h
  case putfield j =>
    have h' : (rs_put (rs_pfl y j) st w).map (fun r => (.inl (nx, L, r.1, r.2) : rs_O)) = some (.inl z) := h
    cases hv : rs_put (rs_pfl y j) st w with
    | none => rw [hv] at h'; cases h'
    | some r => rw [hv] at h'; cases h'; exact k0_put hv hb
  case iastore =>
    have h' : (rs_ast 12 st w).map (fun r => (.inl (nx, L, r.1, r.2) : rs_O)) = some (.inl z) := h
    cases hv : rs_ast 12 st w with
    | none => rw [hv] at h'; cases h'
    | some r => rw [hv] at h'; cases h'; exact k0_ast hv hb
  case lastore =>
    have h' : (rs_ast 13 st w).map (fun r => (.inl (nx, L, r.1, r.2) : rs_O)) = some (.inl z) := h
    cases hv : rs_ast 13 st w with
    | none => rw [hv] at h'; cases h'
    | some r => rw [hv] at h'; cases h'; exact k0_ast hv hb
  case bastore =>
    have h' : (rs_ast 14 st w).map (fun r => (.inl (nx, L, r.1, r.2) : rs_O)) = some (.inl z) := h
    cases hv : rs_ast 14 st w with
    | none => rw [hv] at h'; cases h'
    | some r => rw [hv] at h'; cases h'; exact k0_ast hv hb
  case aastore =>
    have h' : (rs_ast 99 st w).map (fun r => (.inl (nx, L, r.1, r.2) : rs_O)) = some (.inl z) := h
    cases hv : rs_ast 99 st w with
    | none => rw [hv] at h'; cases h'
    | some r => rw [hv] at h'; cases h'; exact k0_ast hv hb
  case new j =>
    have h' : (rs_newo (rs_nw y.cls j) st w).map (fun r => (.inl (nx, L, r.1, r.2) : rs_O)) = some (.inl z) := h
    cases hv : rs_newo (rs_nw y.cls j) st w with
    | none => rw [hv] at h'; cases h'
    | some r =>
      rw [hv] at h'
      cases h'
      exact k0_newo hv hb
  case newarray j =>
    have h' : (rs_newa (rs_nk j) st w).map (fun r => (.inl (nx, L, r.1, r.2) : rs_O)) = some (.inl z) := h
    cases hv : rs_newa (rs_nk j) st w with
    | none => rw [hv] at h'; cases h'
    | some r =>
      rw [hv] at h'
      cases h'
      exact k0_newa hv hb
  case anewarray j =>
    have h' : (rs_newa (rs_na y.cls j) st w).map (fun r => (.inl (nx, L, r.1, r.2) : rs_O)) = some (.inl z) := h
    cases hv : rs_newa (rs_na y.cls j) st w with
    | none => rw [hv] at h'; cases h'
    | some r =>
      rw [hv] at h'
      cases h'
      exact k0_newa hv hb
  case invokespecial j =>
    unfold rs_exec at h
    dsimp only at h
    cases ho : rs_oi y.cls j with
    | false => rw [ho, cond_false] at h; exact (rs_call_no h).elim
    | true =>
      rw [ho, cond_true] at h
      split at h
      · split at h
        · cases h; exact same rfl
        · cases h
      · cases h
  case invokevirtual j => exact (rs_call_no (show rs_call (rs_lk 1 y.cls j) 1 nx st w = some (.inl z) from h)).elim
  case invokestatic j =>
    unfold rs_exec at h
    dsimp only at h
    split at h
    · exact (rs_call_no h).elim
    · exact mp (f := fun s => (nx, L, s)) h
  case ireturn => exact (rs_ret_no (by simp) h).elim
  case lreturn => exact (rs_ret_no (by simp) h).elim
  case areturn => exact (rs_ret_no (by simp) h).elim
  case return_ => exact (rs_ret_no (by simp) h).elim
  case iconst v => cases h; exact same rfl
  case bipush v => cases h; exact same rfl
  case sipush v => cases h; exact same rfl
  case lconst v => cases h; exact same rfl
  case goto o => cases h; exact same rfl
  all_goals exact alu h rfl
theorem rs_run_k0 {c0 : rs_C} : ∀ (n d : Nat) (y : MethodName) (pc : Nat) (L : rs_L) (st : List Value) (w w' : rs_H) (v : Option Value), rs_run n d y pc L st w = some (w', v) → rs_k0 c0 w → rs_k0 c0 w' := by
  intro n
  induction n with
  | zero => intro d y pc L st w w' v h; cases h
  | succ n ih =>
    intro d y pc L st w w' v h hb
    rw [rs_run] at h
    cases hs : rs_step y pc L st w with
    | none => rw [hs] at h; cases h
    | some o =>
      rw [hs] at h
      rcases o with z | z | v0
      · refine ih _ _ _ _ _ _ _ _ h ?_
        unfold rs_step at hs
        split at hs
        · cases hs
        · exact rs_exec_k0 hs hb
      · dsimp only at h
        cases d with
        | zero => cases h
        | succ d =>
          dsimp only at h
          cases he : rs_ent z.1 z.2.1 with
          | none => rw [he] at h; cases h
          | some l0 =>
            rw [he] at h
            dsimp only at h
            cases hr : rs_run n d z.1 0 l0 [] w with
            | none => rw [hr] at h; cases h
            | some u =>
              rw [hr] at h
              exact ih _ _ _ _ _ _ _ _ h (ih _ _ _ _ _ _ _ _ hr hb)
      · cases h
        exact hb
theorem rs_XM_k {c0 : rs_C} {d : Nat} {y : MethodName} {as : List Value} {w : rs_H} {Q : rs_H → Option Value → Prop} (h : rs_XM d y as w Q) (hb : rs_k0 c0 w) : rs_XM d y as w (fun w' v => Q w' v ∧ rs_k0 c0 w') := by
  obtain ⟨l0, he, n, w', v, h1, h2⟩ := h
  exact ⟨l0, he, n, w', v, h1, h2, rs_run_k0 _ _ _ _ _ _ _ _ _ h1 hb⟩
def rs_rk (o : Option FieldType) (v : Option Value) : Prop := (o = some .int → ∃ x, v = some (.int x)) ∧ (o = some .long → ∃ x, v = some (.long x))
theorem rs_exec_rk {y : MethodName} {q : rs_I} {L : rs_L} {st : List Value} {w : rs_H} {v : Option Value} (h : rs_exec y q L st w = some (.inr (.inr v))) : rs_rk (rs_rt y) v := by
  rcases rs_ret_s h with ⟨-, z, t, -, h1, h2, rfl⟩ | ⟨-, z, -, h1, rfl⟩ | ⟨-, a, C, -, h1, -, h3⟩ | ⟨-, -, h1, rfl⟩
  · refine ⟨fun _ => ⟨z, rfl⟩, fun e => ?_⟩
    rw [h1] at e
    cases e
    cases h2
  · exact ⟨fun e => (by rw [h1] at e; cases e), fun _ => ⟨z, rfl⟩⟩
  · exact ⟨fun e => (by rw [h1] at e; cases e), fun e => (by rw [h1] at e; cases e)⟩
  · exact ⟨fun e => (by rw [h1] at e; cases e), fun e => (by rw [h1] at e; cases e)⟩
theorem rs_run_rk : ∀ (n d : Nat) (y : MethodName) (pc : Nat) (L : rs_L) (st : List Value) (w w' : rs_H) (v : Option Value), rs_run n d y pc L st w = some (w', v) → rs_rk (rs_rt y) v := by
  intro n
  induction n with
  | zero => intro d y pc L st w w' v h; cases h
  | succ n ih =>
    intro d y pc L st w w' v h
    rw [rs_run] at h
    cases hs : rs_step y pc L st w with
    | none => rw [hs] at h; cases h
    | some o =>
      rw [hs] at h
      rcases o with z | z | v0
      · exact ih _ _ _ _ _ _ _ _ h
      · dsimp only at h
        cases d with
        | zero => cases h
        | succ d =>
          dsimp only at h
          cases he : rs_ent z.1 z.2.1 with
          | none => rw [he] at h; cases h
          | some l0 =>
            rw [he] at h
            dsimp only at h
            cases hr : rs_run n d z.1 0 l0 [] w with
            | none => rw [hr] at h; cases h
            | some u =>
              rw [hr] at h
              exact ih _ _ _ _ _ _ _ _ h
      · cases h
        unfold rs_step at hs
        split at hs
        · cases hs
        · exact rs_exec_rk hs
theorem rs_XM_rk {d : Nat} {y : MethodName} {as : List Value} {w : rs_H} {Q : rs_H → Option Value → Prop} (h : rs_XM d y as w Q) : rs_XM d y as w (fun w' v => Q w' v ∧ rs_rk (rs_rt y) v) := by
  obtain ⟨l0, he, n, w', v, h1, h2⟩ := h
  exact ⟨l0, he, n, w', v, h1, h2, rs_run_rk _ _ _ _ _ _ _ _ _ h1⟩
