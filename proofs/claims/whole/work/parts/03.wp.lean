/-! what a run comes to: X, of a place in a method; XM, of a call -/
def rs_X (d : Nat) (y : MethodName) (pc : Nat) (l : rs_L) (st : List Value) (w : rs_H) (Q : rs_H → Option Value → Prop) : Prop := ∃ n w' v, rs_run n d y pc l st w = some (w', v) ∧ Q w' v
def rs_XM (d : Nat) (y : MethodName) (as : List Value) (w : rs_H) (Q : rs_H → Option Value → Prop) : Prop := ∃ l0, rs_ent y as = some l0 ∧ rs_X d y 0 l0 [] w Q
def rs_XO (d : Nat) (y : MethodName) (l : rs_L) (w : rs_H) (Q : rs_H → Option Value → Prop) : Option rs_O → Prop
  | none => False
  | some (.inl z) => rs_X d y z.1 z.2.1 z.2.2.1 z.2.2.2 Q
  | some (.inr (.inl z)) => match d with
    | 0 => False
    | d' + 1 => rs_XM d' z.1 z.2.1 w (fun w' v => rs_X (d' + 1) y z.2.2.1 l (rs_push v z.2.2.2) w' Q)
  | some (.inr (.inr v)) => Q w v
theorem rs_run_s : ∀ (n d : Nat) (y : MethodName) (pc : Nat) (l : rs_L) (st : List Value) (w : rs_H) (r : rs_H × Option Value), rs_run n d y pc l st w = some r → rs_run (n + 1) d y pc l st w = some r := by
  intro n
  induction n with
  | zero => intro d y pc l st w r h; cases h
  | succ n ih =>
    intro d y pc l st w r h
    rw [rs_run] at h ⊢
    cases hs : rs_step y pc l st w with
    | none => rw [hs] at h; cases h
    | some o =>
      rw [hs] at h
      rcases o with z | z | v
      · exact ih _ _ _ _ _ _ _ h
      · dsimp only at h ⊢
        cases d with
        | zero => cases h
        | succ d =>
          dsimp only at h ⊢
          cases he : rs_ent z.1 z.2.1 with
          | none => rw [he] at h; cases h
          | some l0 =>
            rw [he] at h
            dsimp only at h ⊢
            cases hr : rs_run n d z.1 0 l0 [] w with
            | none => rw [hr] at h; cases h
            | some u =>
              rw [hr] at h
              rw [ih _ _ _ _ _ _ _ hr]
              exact ih _ _ _ _ _ _ _ h
      · exact h
theorem rs_run_le {n n' d : Nat} {y : MethodName} {pc : Nat} {l : rs_L} {st : List Value} {w : rs_H} {r : rs_H × Option Value} (h : rs_run n d y pc l st w = some r) (hn : n ≤ n') : rs_run n' d y pc l st w = some r := by
  induction n' with
  | zero => rwa [Nat.le_zero.mp hn] at h
  | succ k ih =>
    rcases Nat.lt_or_ge n (k + 1) with q | q
    · exact rs_run_s _ _ _ _ _ _ _ _ (ih (Nat.le_of_lt_succ q))
    · rwa [Nat.le_antisymm hn q] at h
theorem rs_X_eq (d : Nat) (y : MethodName) (pc : Nat) (l : rs_L) (st : List Value) (w : rs_H) (Q : rs_H → Option Value → Prop) : rs_X d y pc l st w Q ↔ rs_XO d y l w Q (rs_step y pc l st w) := by
  constructor
  · rintro ⟨n, w', v, h, hQ⟩
    cases n with
    | zero => cases h
    | succ n =>
      rw [rs_run] at h
      cases hs : rs_step y pc l st w with
      | none => rw [hs] at h; cases h
      | some o =>
        rw [hs] at h
        rcases o with z | z | v0
        · exact ⟨n, w', v, h, hQ⟩
        · cases d with
          | zero => cases h
          | succ d =>
            dsimp only at h
            cases he : rs_ent z.1 z.2.1 with
            | none => rw [he] at h; cases h
            | some l0 =>
              rw [he] at h
              dsimp only at h
              cases hr : rs_run n d z.1 0 l0 [] w with
              | none => rw [hr] at h; cases h
              | some u =>
                rw [hr] at h
                exact ⟨l0, he, n, u.1, u.2, hr, n, w', v, h, hQ⟩
        · cases h
          exact hQ
  · intro h
    cases hs : rs_step y pc l st w with
    | none => rw [hs] at h; cases h
    | some o =>
      rw [hs] at h
      rcases o with z | z | v0
      · obtain ⟨n, w', v, h1, hQ⟩ := h
        exact ⟨n + 1, w', v, by rw [rs_run, hs]; exact h1, hQ⟩
      · cases d with
        | zero => cases h
        | succ d =>
          obtain ⟨l0, he, n, w1, v1, hr, n2, w', v, h2, hQ⟩ := h
          refine ⟨max n n2 + 1, w', v, ?_, hQ⟩
          rw [rs_run, hs]
          dsimp only
          rw [he]
          dsimp only
          rw [rs_run_le hr (Nat.le_max_left n n2)]
          exact rs_run_le h2 (Nat.le_max_right n n2)
      · exact ⟨1, w, v0, by rw [rs_run, hs], h⟩
theorem rs_X_mono {d : Nat} {y : MethodName} {pc : Nat} {l : rs_L} {st : List Value} {w : rs_H} {Q Q' : rs_H → Option Value → Prop} (h : rs_X d y pc l st w Q) (hq : ∀ w' v, Q w' v → Q' w' v) : rs_X d y pc l st w Q' := by
  obtain ⟨n, w', v, h1, h2⟩ := h
  exact ⟨n, w', v, h1, hq _ _ h2⟩
theorem rs_XM_mono {d : Nat} {y : MethodName} {as : List Value} {w : rs_H} {Q Q' : rs_H → Option Value → Prop} (h : rs_XM d y as w Q) (hq : ∀ w' v, Q w' v → Q' w' v) : rs_XM d y as w Q' := by
  obtain ⟨l0, he, h1⟩ := h
  exact ⟨l0, he, rs_X_mono h1 hq⟩
/-- more depth does no harm -/
theorem rs_run_d : ∀ (n d d' : Nat) (y : MethodName) (pc : Nat) (l : rs_L) (st : List Value) (w : rs_H) (r : rs_H × Option Value), rs_run n d y pc l st w = some r → d ≤ d' → rs_run n d' y pc l st w = some r := by
  intro n
  induction n with
  | zero => intro d d' y pc l st w r h; cases h
  | succ n ih =>
    intro d d' y pc l st w r h hd
    rw [rs_run] at h ⊢
    cases hs : rs_step y pc l st w with
    | none => rw [hs] at h; cases h
    | some o =>
      rw [hs] at h
      rcases o with z | z | v
      · exact ih _ _ _ _ _ _ _ _ h hd
      · dsimp only at h ⊢
        cases d with
        | zero => cases h
        | succ d =>
          obtain ⟨e, rfl⟩ : ∃ e, d' = e + 1 := ⟨d' - 1, by omega⟩
          dsimp only at h ⊢
          cases he : rs_ent z.1 z.2.1 with
          | none => rw [he] at h; cases h
          | some l0 =>
            rw [he] at h
            dsimp only at h ⊢
            cases hr : rs_run n d z.1 0 l0 [] w with
            | none => rw [hr] at h; cases h
            | some u =>
              rw [hr] at h
              rw [ih _ _ _ _ _ _ _ _ hr (by omega)]
              exact ih _ _ _ _ _ _ _ _ h hd
      · exact h
theorem rs_XM_d {d d' : Nat} {y : MethodName} {as : List Value} {w : rs_H} {Q : rs_H → Option Value → Prop} (h : rs_XM d y as w Q) (hd : d ≤ d') : rs_XM d' y as w Q := by
  obtain ⟨l0, he, n, w', v, h1, h2⟩ := h
  exact ⟨l0, he, n, w', v, rs_run_d _ _ _ _ _ _ _ _ _ h1 hd, h2⟩
theorem rs_run_det {n n' d : Nat} {y : MethodName} {pc : Nat} {l : rs_L} {st : List Value} {w : rs_H} {r r' : rs_H × Option Value} (h : rs_run n d y pc l st w = some r) (h' : rs_run n' d y pc l st w = some r') : r = r' :=
  Option.some.inj ((rs_run_le h (Nat.le_max_left n n')).symm.trans (rs_run_le h' (Nat.le_max_right n n')))
/-- a call that comes to one end: it comes to Q just when that end is of Q -/
theorem rs_XM_iff {d : Nat} {y : MethodName} {as : List Value} {w w1 : rs_H} {v1 : Option Value} (h : rs_XM d y as w (fun w' v => w' = w1 ∧ v = v1)) (Q : rs_H → Option Value → Prop) : rs_XM d y as w Q ↔ Q w1 v1 := by
  constructor
  · rintro ⟨l0, he, n, w', v, h1, h2⟩
    obtain ⟨l0', he', n', w'', v', h1', rfl, rfl⟩ := h
    cases he.symm.trans he'
    have := rs_run_det h1 h1'
    cases this
    exact h2
  · intro hQ
    refine rs_XM_mono h ?_
    rintro _ _ ⟨rfl, rfl⟩
    exact hQ
theorem rs_X_iff {d : Nat} {y : MethodName} {pc : Nat} {l : rs_L} {st : List Value} {w w1 : rs_H} {v1 : Option Value} (h : rs_X d y pc l st w (fun w' v => w' = w1 ∧ v = v1)) (Q : rs_H → Option Value → Prop) : rs_X d y pc l st w Q ↔ Q w1 v1 := by
  constructor
  · rintro ⟨n, w', v, h1, h2⟩
    obtain ⟨n', w'', v', h1', rfl, rfl⟩ := h
    have := rs_run_det h1 h1'
    cases this
    exact h2
  · intro hQ
    refine rs_X_mono h ?_
    rintro _ _ ⟨rfl, rfl⟩
    exact hQ
def rs_XD (d : Nat) (y : MethodName) (l : rs_L) (st : List Value) (w : rs_H) (Q : rs_H → Option Value → Prop) (q : Option rs_I) : Prop := match q with
  | none => False
  | some q => rs_XO d y l w Q (rs_exec y q l st w)
/-- one step, by the decoded instruction -/
theorem rs_go (d : Nat) (y : MethodName) (pc : Nat) (l : rs_L) (st : List Value) (w : rs_H) (Q : rs_H → Option Value → Prop) : rs_X d y pc l st w Q ↔ rs_XD d y l st w Q (rs_dec y pc) := by
  rw [rs_X_eq, rs_step]
  cases rs_dec y pc <;> exact Iff.rfl
