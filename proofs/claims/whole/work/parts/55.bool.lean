/-! the reference's one truth stays 0 or 1 in every run -/
def gB (x : Int32) : Prop := x = nI 0 ∨ x = nI 1
def rs_bk (w : rs_H) : Prop := ∀ q c, w.1 q = some c → c.1 = 11 → c.2.2 8 = .int (nI 0) ∨ c.2.2 8 = .int (nI 1)
theorem bk_up {w : rs_H} (h : rs_bk w) {q : Nat} {c : rs_C} (hc : c.1 = 11 → c.2.2 8 = .int (nI 0) ∨ c.2.2 8 = .int (nI 1)) : rs_bk (rs_up w q c) := by
  intro q2 c2 h1 h2
  have h1 : va_up w.1 q (some c) q2 = some c2 := h1
  by_cases e : q2 = q
  · rw [e, vu_eq] at h1
    cases h1
    exact hc h2
  · rw [vu_ne _ _ e] at h1
    exact h q2 c2 h1 h2
theorem bk_new {w : rs_H} (h : rs_bk w) {c : rs_C} (hc : c.1 = 11 → c.2.2 8 = .int (nI 0) ∨ c.2.2 8 = .int (nI 1)) : rs_bk (rs_new w c) := by
  intro q2 c2 h1 h2
  have h1 : va_up w.1 w.2.1 (some c) q2 = some c2 := h1
  by_cases e : q2 = w.2.1
  · rw [e, vu_eq] at h1
    cases h1
    exact hc h2
  · rw [vu_ne _ _ e] at h1
    exact h q2 c2 h1 h2
theorem bk_put {y : MethodName} {j : Nat} {st : List Value} {w : rs_H} {r : List Value × rs_H} (hv : rs_put (rs_pfl y j) st w = some r) (hb : rs_bk w) : rs_bk r.2 := by
  unfold rs_put at hv
  split at hv
  · rename_i f v q s hf
    split at hv
    · rename_i c hc
      split at hv
      · rename_i hk
        cases hv
        refine bk_up hb (fun e => ?_)
        have e : c.1 = 11 := e
        have hf0 : f.1 = 11 := hk.1.symm.trans e
        by_cases e8 : (8 : Nat) = f.2.1
        · obtain ⟨fin, h1, -⟩ := rs_pfl_s hf
          obtain ⟨-, -, -, h2, -⟩ := rs_fl_s h1
          have h2 : f.2.2 = rs_ty f.1 f.2.1 := h2
          have h3 : f.2.2 = .boolean := by rw [h2, hf0, ← e8]; rfl
          have h4 : fits .boolean v = true := by rw [← h3]; exact hk.2
          have h5 : va_up c.2.2 f.2.1 v 8 = v := by rw [← e8, vu_eq]
          show va_up c.2.2 f.2.1 v 8 = _ ∨ va_up c.2.2 f.2.1 v 8 = _
          rw [h5]
          cases v with
          | int x =>
            have h6 : x = 0 ∨ x = 1 := by simpa [fits] using h4
            rcases h6 with e | e
            · subst e; exact Or.inl rfl
            · subst e; exact Or.inr rfl
          | _ => cases h4
        · show va_up c.2.2 f.2.1 v 8 = _ ∨ va_up c.2.2 f.2.1 v 8 = _
          rw [vu_ne _ _ e8]
          exact hb q c hc e
      · cases hv
    · cases hv
  · cases hv
theorem bk_ast {k : Nat} {st : List Value} {w : rs_H} {r : List Value × rs_H} (hv : rs_ast k st w = some r) (hb : rs_bk w) : rs_bk r.2 := by
  unfold rs_ast at hv
  split at hv
  · split at hv
    · rename_i c hc
      split at hv
      · rename_i hk
        cases hv
        refine bk_up hb (fun e => ?_)
        have e : c.1 = 11 := e
        exfalso
        have h1 := hk.1.2.1
        have h2 := hk.1.2.2
        unfold rs_okK at h1
        split at h1
        · have := of_decide_eq_true h1
          omega
        · have h3 := of_decide_eq_true h1
          have h4 : k = 11 := h3.symm.trans e
          subst h4
          cases h2
      · cases hv
    · cases hv
  · cases hv
theorem bk_newo {y : MethodName} {j : Nat} {st : List Value} {w : rs_H} {r : List Value × rs_H} (hv : rs_newo (rs_nw y.cls j) st w = some r) (hb : rs_bk w) : rs_bk r.2 := by
  unfold rs_newo at hv
  split at hv
  · rename_i k hk
    cases hv
    refine bk_new hb (fun e => ?_)
    have e : k.1 = 11 := e
    show defaultValue (rs_ty k.1 8) = _ ∨ _
    rw [e]
    exact Or.inl rfl
  · cases hv
theorem bk_newa {kd : Option Nat} {st : List Value} {w : rs_H} {r : List Value × rs_H} (hk : ∀ k, kd = some k → ¬ k = 11) (hv : rs_newa kd st w = some r) (hb : rs_bk w) : rs_bk r.2 := by
  obtain ⟨k, n, r', h1, -, -, -, rfl⟩ := rs_newa_s hv
  exact bk_new hb (fun e => absurd e (hk k h1))
theorem bk_fs {X : FieldType} {k : Nat} (h : ((List.range 20).findSome? fun k => if rs_aty k = some X then some k else none) = some k) : ¬ k = 11 := by
  obtain ⟨j, -, h2⟩ := List.exists_of_findSome?_eq_some h
  intro e
  split at h2
  · rename_i h3
    cases h2
    subst e
    cases h3
  · cases h2
theorem bk_nk {t : ArrayType} {k : Nat} (h : rs_nk t = some k) : ¬ k = 11 := by
  unfold rs_nk at h
  split at h
  · exact bk_fs h
  · cases h
theorem bk_na {own : String} {i : Nat} {k : Nat} (h : rs_na own i = some k) : ¬ k = 11 := by
  unfold rs_na at h
  split at h
  · cases h
  · split at h
    · exact bk_fs h
    · cases h
set_option maxHeartbeats 4000000 in
theorem rs_exec_bk {y : MethodName} {q : rs_I} {L : rs_L} {st : List Value} {w : rs_H} {z : Nat × rs_L × List Value × rs_H} (h : rs_exec y q L st w = some (.inl z)) (hb : rs_bk w) : rs_bk z.2.2.2 := by
  obtain ⟨i, n, nx, t, cs, cv⟩ := q
  have same : ∀ {a : Nat} {b : rs_L} {c : List Value}, z = (a, b, c, w) → rs_bk z.2.2.2 := by
    intro a b c e
    subst e
    exact hb
  have mp : ∀ {α : Type} {o : Option α} {f : α → Nat × rs_L × List Value}, o.map (fun r => (.inl ((f r).1, (f r).2.1, (f r).2.2, w) : rs_O)) = some (.inl z) → rs_bk z.2.2.2 := by
    intro α o f e
    cases o with
    | none => cases e
    | some r => cases e; exact hb
  have alu : ∀ {i : Instr}, rs_exec y (i, n, nx, t, cs, cv) L st w = some (.inl z) → rs_exec y (i, n, nx, t, cs, cv) L st w = (rs_alu i st).map (fun r => (.inl (nx, L, r, w) : rs_O)) → rs_bk z.2.2.2 := by
    intro i h1 h2
    rw [h2] at h1
    exact mp (f := fun s => (nx, L, s)) h1
  cases i
  case ldc j =>
    unfold rs_exec at h
    dsimp only at h
    split at h
    · cases h; exact same rfl
    · cases h
  case ldc_w j =>
    unfold rs_exec at h
    dsimp only at h
    split at h
    · cases h; exact same rfl
    · cases h
  case ldc2_w j =>
    unfold rs_exec at h
    dsimp only at h
    split at h
    · cases h; exact same rfl
    · cases h
  case iload j => exact mp (o := rs_load (.iload j) L) (f := fun v => (nx, L, v :: st)) h
  case iload_n j => exact mp (o := rs_load (.iload_n j) L) (f := fun v => (nx, L, v :: st)) h
  case lload j => exact mp (o := rs_load (.lload j) L) (f := fun v => (nx, L, v :: st)) h
  case lload_n j => exact mp (o := rs_load (.lload_n j) L) (f := fun v => (nx, L, v :: st)) h
  case aload j => exact mp (o := rs_load (.aload j) L) (f := fun v => (nx, L, v :: st)) h
  case aload_n j => exact mp (o := rs_load (.aload_n j) L) (f := fun v => (nx, L, v :: st)) h
  case istore j => cases st with
    | nil => cases h
    | cons v r => exact mp (o := rs_store (.istore j) L v) (f := fun l' => (nx, l', r)) h
  case istore_n j => cases st with
    | nil => cases h
    | cons v r => exact mp (o := rs_store (.istore_n j) L v) (f := fun l' => (nx, l', r)) h
  case lstore j => cases st with
    | nil => cases h
    | cons v r => exact mp (o := rs_store (.lstore j) L v) (f := fun l' => (nx, l', r)) h
  case lstore_n j => cases st with
    | nil => cases h
    | cons v r => exact mp (o := rs_store (.lstore_n j) L v) (f := fun l' => (nx, l', r)) h
  case astore j => cases st with
    | nil => cases h
    | cons v r => exact mp (o := rs_store (.astore j) L v) (f := fun l' => (nx, l', r)) h
  case astore_n j => cases st with
    | nil => cases h
    | cons v r => exact mp (o := rs_store (.astore_n j) L v) (f := fun l' => (nx, l', r)) h
  case iinc j v =>
    unfold rs_exec at h
    dsimp only at h
    split at h
    · exact mp (f := fun l' => (nx, l', st)) h
    · cases h
  case ifCond k o =>
    unfold rs_exec at h
    dsimp only at h
    split at h
    · cases h; exact same rfl
    · cases h
  case if_icmp k o =>
    unfold rs_exec at h
    dsimp only at h
    split at h
    · cases h; exact same rfl
    · cases h
  case ifnull o =>
    unfold rs_exec at h
    dsimp only at h
    split at h
    · cases h; exact same rfl
    · cases h; exact same rfl
    · cases h
  case ifnonnull o =>
    unfold rs_exec at h
    dsimp only at h
    split at h
    · cases h; exact same rfl
    · cases h; exact same rfl
    · cases h
  case tableswitch d lo hi offs =>
    unfold rs_exec at h
    dsimp only at h
    split at h
    · cases h; exact same rfl
    · cases h
  case getfield j => exact mp (o := rs_get (rs_fl y.cls j) st w) (f := fun s => (nx, L, s)) h
  case iaload => exact mp (o := rs_ald 12 st w) (f := fun s => (nx, L, s)) h
  case laload => exact mp (o := rs_ald 13 st w) (f := fun s => (nx, L, s)) h
  case baload => exact mp (o := rs_ald 14 st w) (f := fun s => (nx, L, s)) h
  case aaload => exact mp (o := rs_ald 99 st w) (f := fun s => (nx, L, s)) h
  case arraylength => exact mp (o := rs_alen st w) (f := fun s => (nx, L, s)) h
  case putfield j =>
    have h' : (rs_put (rs_pfl y j) st w).map (fun r => (.inl (nx, L, r.1, r.2) : rs_O)) = some (.inl z) := h
    cases hv : rs_put (rs_pfl y j) st w with
    | none => rw [hv] at h'; cases h'
    | some r => rw [hv] at h'; cases h'; exact bk_put hv hb
  case iastore =>
    have h' : (rs_ast 12 st w).map (fun r => (.inl (nx, L, r.1, r.2) : rs_O)) = some (.inl z) := h
    cases hv : rs_ast 12 st w with
    | none => rw [hv] at h'; cases h'
    | some r => rw [hv] at h'; cases h'; exact bk_ast hv hb
  case lastore =>
    have h' : (rs_ast 13 st w).map (fun r => (.inl (nx, L, r.1, r.2) : rs_O)) = some (.inl z) := h
    cases hv : rs_ast 13 st w with
    | none => rw [hv] at h'; cases h'
    | some r => rw [hv] at h'; cases h'; exact bk_ast hv hb
  case bastore =>
    have h' : (rs_ast 14 st w).map (fun r => (.inl (nx, L, r.1, r.2) : rs_O)) = some (.inl z) := h
    cases hv : rs_ast 14 st w with
    | none => rw [hv] at h'; cases h'
    | some r => rw [hv] at h'; cases h'; exact bk_ast hv hb
  case aastore =>
    have h' : (rs_ast 99 st w).map (fun r => (.inl (nx, L, r.1, r.2) : rs_O)) = some (.inl z) := h
    cases hv : rs_ast 99 st w with
    | none => rw [hv] at h'; cases h'
    | some r => rw [hv] at h'; cases h'; exact bk_ast hv hb
  case new j =>
    have h' : (rs_newo (rs_nw y.cls j) st w).map (fun r => (.inl (nx, L, r.1, r.2) : rs_O)) = some (.inl z) := h
    cases hv : rs_newo (rs_nw y.cls j) st w with
    | none => rw [hv] at h'; cases h'
    | some r =>
      rw [hv] at h'
      cases h'
      exact bk_newo hv hb
  case newarray j =>
    have h' : (rs_newa (rs_nk j) st w).map (fun r => (.inl (nx, L, r.1, r.2) : rs_O)) = some (.inl z) := h
    cases hv : rs_newa (rs_nk j) st w with
    | none => rw [hv] at h'; cases h'
    | some r =>
      rw [hv] at h'
      cases h'
      exact bk_newa (fun k e => bk_nk e) hv hb
  case anewarray j =>
    have h' : (rs_newa (rs_na y.cls j) st w).map (fun r => (.inl (nx, L, r.1, r.2) : rs_O)) = some (.inl z) := h
    cases hv : rs_newa (rs_na y.cls j) st w with
    | none => rw [hv] at h'; cases h'
    | some r =>
      rw [hv] at h'
      cases h'
      exact bk_newa (fun k e => bk_na e) hv hb
  case invokespecial j =>
    unfold rs_exec at h
    dsimp only at h
    cases ho : rs_oi y.cls j with
    | false => rw [ho, cond_false] at h; exact (rs_call_no h).elim
    | true =>
      rw [ho, cond_true] at h
      split at h
      · split at h
        · cases h; exact same rfl
        · cases h
      · cases h
  case invokevirtual j => exact (rs_call_no (show rs_call (rs_lk 1 y.cls j) 1 nx st w = some (.inl z) from h)).elim
  case invokestatic j =>
    unfold rs_exec at h
    dsimp only at h
    split at h
    · exact (rs_call_no h).elim
    · exact mp (f := fun s => (nx, L, s)) h
  case ireturn => exact (rs_ret_no (by simp) h).elim
  case lreturn => exact (rs_ret_no (by simp) h).elim
  case areturn => exact (rs_ret_no (by simp) h).elim
  case return_ => exact (rs_ret_no (by simp) h).elim
  case iconst v => cases h; exact same rfl
  case bipush v => cases h; exact same rfl
  case sipush v => cases h; exact same rfl
  case lconst v => cases h; exact same rfl
  case goto o => cases h; exact same rfl
  all_goals exact alu h rfl
theorem rs_run_bk : ∀ (n d : Nat) (y : MethodName) (pc : Nat) (L : rs_L) (st : List Value) (w w' : rs_H) (v : Option Value), rs_run n d y pc L st w = some (w', v) → rs_bk w → rs_bk w' := by
  intro n
  induction n with
  | zero => intro d y pc L st w w' v h; cases h
  | succ n ih =>
    intro d y pc L st w w' v h hb
    rw [rs_run] at h
    cases hs : rs_step y pc L st w with
    | none => rw [hs] at h; cases h
    | some o =>
      rw [hs] at h
      rcases o with z | z | v0
      · refine ih _ _ _ _ _ _ _ _ h ?_
        unfold rs_step at hs
        split at hs
        · cases hs
        · exact rs_exec_bk hs hb
      · dsimp only at h
        cases d with
        | zero => cases h
        | succ d =>
          dsimp only at h
          cases he : rs_ent z.1 z.2.1 with
          | none => rw [he] at h; cases h
          | some l0 =>
            rw [he] at h
            dsimp only at h
            cases hr : rs_run n d z.1 0 l0 [] w with
            | none => rw [hr] at h; cases h
            | some u =>
              rw [hr] at h
              exact ih _ _ _ _ _ _ _ _ h (ih _ _ _ _ _ _ _ _ hr hb)
      · cases h
        exact hb
theorem rs_XM_b {d : Nat} {y : MethodName} {as : List Value} {w : rs_H} {Q : rs_H → Option Value → Prop} (h : rs_XM d y as w Q) (hb : rs_bk w) : rs_XM d y as w (fun w' v => Q w' v ∧ rs_bk w') := by
  obtain ⟨l0, he, n, w', v, h1, h2⟩ := h
  exact ⟨l0, he, n, w', v, h1, h2, rs_run_bk _ _ _ _ _ _ _ _ _ h1 hb⟩
