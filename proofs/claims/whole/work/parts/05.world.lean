/-! the run's heap and the model's: a cell's number k + 1 is the address base + k, 0 is the script's -/
def rs_p (b base : Nat) : Nat → Nat
  | 0 => b
  | k + 1 => base + k
def rs_v (b base : Nat) : Value → Value
  | .ref q => .ref (rs_p b base q)
  | v => v
theorem rs_p_inj {b base : Nat} (h : b < base) : ∀ {i j : Nat}, rs_p b base i = rs_p b base j → i = j
  | 0, 0, _ => rfl
  | 0, j + 1, e => by simp only [rs_p] at e; omega
  | i + 1, 0, e => by simp only [rs_p] at e; omega
  | i + 1, j + 1, e => by simp only [rs_p] at e; omega
def rs_at (D : va_G) (s : State) (b base id : Nat) (c : rs_C) (H : Heap) : Prop :=
  (∃ r : vw_C, rs_cl[c.1]? = some r ∧ c.2.1 = r.2.2 ∧ t_OB (rs_p b base id) (D.1 c.1) r.2.2 (D.2 c.1) H (fun j => rs_v b base (c.2.2 j))) ∨
  (∃ ty, rs_aty c.1 = some ty ∧ ((∃ cA, ArrOfT s cA ty ∧ va_RA s cA ty ∧ H[rs_p b base id]? = some (arrV cA c.2.1 (fun j => rs_v b base (c.2.2 j)))) ∨
    (id = 0 ∧ ty = .int ∧ ∃ scr : Cell, H[b]? = some scr ∧ s.isArrayOf scr .int ∧ scr.vm ≠ .unknown ∧ scr.slots.size = c.2.1 ∧ ∀ j : Nat, j < c.2.1 → scr.slots[j]? = some (rs_v b base (c.2.2 j)))))
def rs_G (D : va_G) (s : State) (b base : Nat) (w : rs_H) (H : Heap) : Prop :=
  b < base ∧ (∃ k, w.2.1 = k + 1 ∧ H.size = base + k) ∧ ∀ id c, w.1 id = some c → (id < w.2.1 ∧ (id = 0 → c.1 = 12)) ∧ rs_at D s b base id c H
theorem rs_at.kept {D : va_G} {s : State} {b base id : Nat} {c : rs_C} {H H1 : Heap} (h : rs_at D s b base id c H) (hq : H1[rs_p b base id]? = H[rs_p b base id]?) : rs_at D s b base id c H1 := by
  rcases h with ⟨r, h1, h2, h3⟩ | ⟨ty, h1, ⟨cA, h2, h3, h4⟩ | ⟨rfl, h2, scr, h3, h4⟩⟩
  · exact Or.inl ⟨r, h1, h2, h3.kept hq⟩
  · exact Or.inr ⟨ty, h1, Or.inl ⟨cA, h2, h3, hq.trans h4⟩⟩
  · exact Or.inr ⟨ty, h1, Or.inr ⟨rfl, h2, scr, Eq.trans hq h3, h4⟩⟩
theorem rs_at.moved {D : va_G} {u U : State} {b base id : Nat} {c : rs_C} {H : Heap} (hvm : u.vm.Alike U.vm) (h : rs_at D u b base id c H) : rs_at D U b base id c H := by
  rcases h with ⟨r, h1, h2, h3⟩ | ⟨ty, h1, ⟨cA, h2, h3, h4⟩ | ⟨rfl, h2, scr, h3, h4, h5⟩⟩
  · exact Or.inl ⟨r, h1, h2, h3⟩
  · exact Or.inr ⟨ty, h1, Or.inl ⟨cA, arrOfT_moved hvm h2, h3.moved hvm, h4⟩⟩
  · exact Or.inr ⟨ty, h1, Or.inr ⟨rfl, h2, scr, h3, State.isArrayOf_alike hvm h4, h5⟩⟩
theorem rs_G.moved {D : va_G} {u U : State} {b base : Nat} {w : rs_H} {H : Heap} (hvm : u.vm.Alike U.vm) (h : rs_G D u b base w H) : rs_G D U b base w H := ⟨h.1, h.2.1, fun id c hc => ⟨(h.2.2 id c hc).1, (h.2.2 id c hc).2.moved hvm⟩⟩
/-- a cell is written -/
theorem rs_G.up {D : va_G} {s : State} {b base q : Nat} {w : rs_H} {H H1 : Heap} {c c' : rs_C} (h : rs_G D s b base w H) (hc : w.1 q = some c) (hk : c'.1 = c.1) (hz : H1.size = H.size) (oq : ∀ a : Nat, a ≠ rs_p b base q → H1[a]? = H[a]?) (hn : rs_at D s b base q c' H1) : rs_G D s b base (rs_up w q c') H1 := by
  obtain ⟨h1, h2, h3⟩ := h
  refine ⟨h1, by rw [hz]; exact h2, fun id c1 hid => ?_⟩
  show (id < w.2.1 ∧ _) ∧ _
  simp only [rs_up, va_up] at hid
  by_cases e : id = q
  · subst e
    rw [if_pos rfl] at hid
    cases hid
    exact ⟨⟨(h3 _ _ hc).1.1, fun z => hk.trans ((h3 _ _ hc).1.2 z)⟩, hn⟩
  · rw [if_neg e] at hid
    exact ⟨(h3 _ _ hid).1, (h3 _ _ hid).2.kept (oq _ (fun z => e (rs_p_inj h1 z)))⟩
/-- a cell is made -/
theorem rs_G.new {D : va_G} {s : State} {b base : Nat} {w : rs_H} {H H1 : Heap} {c' : rs_C} (h : rs_G D s b base w H) (hz : H1.size = H.size + 1) (oq : ∀ a : Nat, a < H.size → H1[a]? = H[a]?) (hn : rs_at D s b base w.2.1 c' H1) : rs_G D s b base (rs_new w c') H1 := by
  obtain ⟨h1, ⟨k, h2, h2'⟩, h3⟩ := h
  refine ⟨h1, ⟨k + 1, by show w.2.1 + 1 = _; rw [h2], by rw [hz, h2']; rfl⟩, fun id c1 hid => ?_⟩
  show (id < w.2.1 + 1 ∧ _) ∧ _
  simp only [rs_new, va_up] at hid
  by_cases e : id = w.2.1
  · subst e
    rw [if_pos rfl] at hid
    cases hid
    exact ⟨⟨Nat.lt_succ_self _, fun z => by omega⟩, hn⟩
  · rw [if_neg e] at hid
    have hl := (h3 _ _ hid).1.1
    refine ⟨⟨Nat.lt_succ_of_lt hl, (h3 _ _ hid).1.2⟩, (h3 _ _ hid).2.kept (oq _ ?_)⟩
    rw [h2']
    cases id with
    | zero => simp only [rs_p]; omega
    | succ j => simp only [rs_p]; omega
theorem rs_G.adr {D : va_G} {s : State} {b base : Nat} {w : rs_H} {H : Heap} (h : rs_G D s b base w H) : rs_p b base w.2.1 = H.size := by
  obtain ⟨-, ⟨k, h2, h2'⟩, -⟩ := h
  rw [h2, h2']
  rfl
/-! locals -/
def rs_la (b base : Nat) : Nat → rs_L → List (Nat × Value)
  | _, [] => []
  | k, none :: l => rs_la b base (k + 1) l
  | k, some v :: l => (k, rs_v b base v) :: rs_la b base (k + 1) l
theorem rs_la_in {b base : Nat} : ∀ (l : rs_L) (k : Nat) (q : Nat × Value), q ∈ rs_la b base k l ↔ ∃ i v, rs_ld l i = some v ∧ q = (k + i, rs_v b base v)
  | [], k, q => by
    constructor
    · intro h; cases h
    · rintro ⟨i, v, h, -⟩; cases h
  | none :: l, k, q => by
    rw [show rs_la b base k (none :: l) = rs_la b base (k + 1) l from rfl, rs_la_in l (k + 1) q]
    constructor
    · rintro ⟨i, v, h, rfl⟩
      exact ⟨i + 1, v, h, by rw [Nat.add_assoc, Nat.add_comm 1 i]⟩
    · rintro ⟨i, v, h, rfl⟩
      cases i with
      | zero => cases h
      | succ i => exact ⟨i, v, h, by rw [Nat.add_assoc, Nat.add_comm 1 i]⟩
  | some u :: l, k, q => by
    rw [show rs_la b base k (some u :: l) = (k, rs_v b base u) :: rs_la b base (k + 1) l from rfl, List.mem_cons, rs_la_in l (k + 1) q]
    constructor
    · rintro (rfl | ⟨i, v, h, rfl⟩)
      · exact ⟨0, u, rfl, rfl⟩
      · exact ⟨i + 1, v, h, by rw [Nat.add_assoc, Nat.add_comm 1 i]⟩
    · rintro ⟨i, v, h, rfl⟩
      cases i with
      | zero => cases h; exact Or.inl rfl
      | succ i => exact Or.inr ⟨i, v, h, by rw [Nat.add_assoc, Nat.add_comm 1 i]⟩
theorem rs_ld_lt : ∀ {l : rs_L} {i : Nat} {v : Value}, rs_ld l i = some v → i < l.length
  | [], _, _, h => by cases h
  | _ :: _, 0, _, _ => Nat.succ_pos _
  | _ :: _, _ + 1, _, h => Nat.succ_lt_succ (rs_ld_lt h)
theorem rs_has_ld {b base : Nat} {ls : Array Slot} {nL : Nat} {l : rs_L} (h : lv_has ls nL (rs_la b base 0 l)) {k : Nat} {v : Value} (hk : rs_ld l k = some v) : ls[k]? = some (.val (rs_v b base v)) :=
  h.2.2 (k, rs_v b base v) ((rs_la_in l 0 _).mpr ⟨k, v, hk, by rw [Nat.zero_add]⟩)
theorem rs_cat (b base : Nat) (v : Value) : (rs_v b base v).category = v.category := by cases v <;> rfl
theorem rs_c2_cat (v : Value) : rs_c2 v = true ↔ v.category = 2 := by cases v <;> simp [rs_c2, Value.category]
theorem rs_dr_s {a : Option Value} {u : Value} (h : rs_dr a = some u) : a = some u ∧ ¬ u.category = 2 := by
  cases a with
  | none => cases h
  | some z => cases z <;> first | (cases h; done) | (cases h; exact ⟨rfl, by simp [Value.category]⟩)
theorem rs_st1_s : ∀ {l : rs_L} {k : Nat} {v : Value} {l' : rs_L}, rs_st1 l k v = some l' → k < l.length ∧ l'.length = l.length ∧ ∀ i u, rs_ld l' i = some u → (i = k ∧ u = v) ∨ (¬ i = k ∧ rs_ld l i = some u ∧ ¬ (i + 1 = k ∧ u.category = 2))
  | [], _, _, _, h => by cases h
  | a :: l, 0, v, l', h => by
    cases h
    refine ⟨Nat.succ_pos _, rfl, fun i u hi => ?_⟩
    cases i with
    | zero => cases hi; exact Or.inl ⟨rfl, rfl⟩
    | succ i => exact Or.inr ⟨by omega, hi, by omega⟩
  | a :: l, 1, v, l', h => by
    cases l with
    | nil => cases h
    | cons c l =>
      cases h
      refine ⟨by simp, rfl, fun i u hi => ?_⟩
      match i, hi with
      | 0, hi =>
        have h1 := rs_dr_s (show rs_dr a = some u from hi)
        exact Or.inr ⟨by omega, h1.1, fun z => h1.2 z.2⟩
      | 1, hi => cases hi; exact Or.inl ⟨rfl, rfl⟩
      | i + 2, hi => exact Or.inr ⟨by omega, hi, by omega⟩
  | a :: l, k + 2, v, l', h => by
    rw [rs_st1] at h
    cases h1 : rs_st1 l (k + 1) v with
    | none => rw [h1] at h; cases h
    | some l1 =>
      rw [h1] at h
      cases h
      obtain ⟨a1, a2, a3⟩ := rs_st1_s h1
      refine ⟨Nat.succ_lt_succ a1, congrArg (· + 1) a2, fun i u hi => ?_⟩
      cases i with
      | zero => exact Or.inr ⟨by omega, hi, by omega⟩
      | succ i =>
        rcases a3 i u hi with ⟨h2, h3⟩ | ⟨h2, h3, h4⟩
        · exact Or.inl ⟨by omega, h3⟩
        · exact Or.inr ⟨by omega, h3, fun z => h4 ⟨by omega, z.2⟩⟩
theorem rs_st2_s : ∀ {l : rs_L} {k : Nat} {v : Value} {l' : rs_L}, rs_st2 l k v = some l' → k + 1 < l.length ∧ l'.length = l.length ∧ ∀ i u, rs_ld l' i = some u → (i = k ∧ u = v) ∨ (¬ i = k ∧ ¬ i = k + 1 ∧ rs_ld l i = some u ∧ ¬ (i + 1 = k ∧ u.category = 2))
  | [], _, _, _, h => by cases h
  | a :: l, 0, v, l', h => by
    cases l with
    | nil => cases h
    | cons c l =>
      cases h
      refine ⟨by simp, rfl, fun i u hi => ?_⟩
      match i, hi with
      | 0, hi => cases hi; exact Or.inl ⟨rfl, rfl⟩
      | 1, hi => cases hi
      | i + 2, hi => exact Or.inr ⟨by omega, by omega, hi, by omega⟩
  | a :: l, 1, v, l', h => by
    match l, h with
    | [], h => cases h
    | [_], h => cases h
    | c :: c2 :: l, h =>
      cases h
      refine ⟨by simp, rfl, fun i u hi => ?_⟩
      match i, hi with
      | 0, hi =>
        have h1 := rs_dr_s (show rs_dr a = some u from hi)
        exact Or.inr ⟨by omega, by omega, h1.1, fun z => h1.2 z.2⟩
      | 1, hi => cases hi; exact Or.inl ⟨rfl, rfl⟩
      | 2, hi => cases hi
      | i + 3, hi => exact Or.inr ⟨by omega, by omega, hi, by omega⟩
  | a :: l, k + 2, v, l', h => by
    rw [rs_st2] at h
    cases h1 : rs_st2 l (k + 1) v with
    | none => rw [h1] at h; cases h
    | some l1 =>
      rw [h1] at h
      cases h
      obtain ⟨a1, a2, a3⟩ := rs_st2_s h1
      refine ⟨Nat.succ_lt_succ a1, congrArg (· + 1) a2, fun i u hi => ?_⟩
      cases i with
      | zero => exact Or.inr ⟨by omega, by omega, hi, by omega⟩
      | succ i =>
        rcases a3 i u hi with ⟨h2, h3⟩ | ⟨h2, h3, h4, h5⟩
        · exact Or.inl ⟨by omega, h3⟩
        · exact Or.inr ⟨by omega, by omega, h4, fun z => h5 ⟨by omega, z.2⟩⟩
theorem rs_has_st1 {b base : Nat} {ls : Array Slot} {nL : Nat} {l l' : rs_L} {k : Nat} {v : Value} (hs : rs_st1 l k v = some l') (h : lv_has ls nL ((k, rs_v b base v) :: (rs_la b base 0 l).filter (fun q => !(q.1 == k) && !(q.1 + 1 == k && q.2.category == 2)))) : lv_has ls nL (rs_la b base 0 l') := by
  refine ⟨h.1, h.2.1, fun q hq => h.2.2 q ?_⟩
  obtain ⟨i, u, hi, rfl⟩ := (rs_la_in l' 0 q).mp hq
  rcases (rs_st1_s hs).2.2 i u hi with ⟨rfl, rfl⟩ | ⟨h1, h2, h3⟩
  · rw [Nat.zero_add]; exact List.mem_cons_self
  · refine List.mem_cons_of_mem _ (List.mem_filter.mpr ⟨(rs_la_in l 0 _).mpr ⟨i, u, h2, rfl⟩, ?_⟩)
    dsimp only
    rw [Nat.zero_add, rs_cat]
    simp only [Bool.and_eq_true, Bool.not_eq_true', beq_eq_false_iff_ne, ne_eq, Bool.and_eq_false_iff]
    refine ⟨h1, ?_⟩
    by_cases e : i + 1 = k
    · exact Or.inr (fun z => h3 ⟨e, z⟩)
    · exact Or.inl e
theorem rs_has_st2 {b base : Nat} {ls : Array Slot} {nL : Nat} {l l' : rs_L} {k : Nat} {v : Value} (hs : rs_st2 l k v = some l') (h : lv_has ls nL ((k, rs_v b base v) :: (rs_la b base 0 l).filter (fun q => !(q.1 == k) && (!(q.1 == k + 1) && !(q.1 + 1 == k && q.2.category == 2))))) : lv_has ls nL (rs_la b base 0 l') := by
  refine ⟨h.1, h.2.1, fun q hq => h.2.2 q ?_⟩
  obtain ⟨i, u, hi, rfl⟩ := (rs_la_in l' 0 q).mp hq
  rcases (rs_st2_s hs).2.2 i u hi with ⟨rfl, rfl⟩ | ⟨h1, h2, h3, h4⟩
  · rw [Nat.zero_add]; exact List.mem_cons_self
  · refine List.mem_cons_of_mem _ (List.mem_filter.mpr ⟨(rs_la_in l 0 _).mpr ⟨i, u, h3, rfl⟩, ?_⟩)
    dsimp only
    rw [Nat.zero_add, rs_cat]
    simp only [Bool.and_eq_true, Bool.not_eq_true', beq_eq_false_iff_ne, ne_eq, Bool.and_eq_false_iff]
    refine ⟨h1, h2, ?_⟩
    by_cases e : i + 1 = k
    · exact Or.inr (fun z => h4 ⟨e, z⟩)
    · exact Or.inl e
/-! the entry -/
theorem rs_al_len (b base : Nat) : ∀ as : List Value, (lg_sl (as.map (rs_v b base))).length = (rs_al as).length
  | [] => rfl
  | v :: as => by
    have ih := rs_al_len b base as
    rw [List.map_cons]
    rw [show lg_sl (rs_v b base v :: as.map (rs_v b base)) = (if (rs_v b base v).category = 2 then [Slot.val (rs_v b base v), .second] else [.val (rs_v b base v)]) ++ lg_sl (as.map (rs_v b base)) from rfl]
    rw [List.length_append, ih, rs_cat]
    rw [rs_al]
    by_cases h : v.category = 2
    · rw [if_pos h, if_pos ((rs_c2_cat v).mpr h)]
      simp; omega
    · rw [if_neg h, if_neg (fun z => h ((rs_c2_cat v).mp z))]
      simp; omega
theorem rs_la_app (b base : Nat) : ∀ (as : List Value) (k n : Nat), rs_la b base k (rs_al as ++ List.replicate n none) = lv_args k (as.map (rs_v b base))
  | [], k, n => by
    show rs_la b base k (List.replicate n none) = []
    induction n generalizing k with
    | zero => rfl
    | succ n ih => exact ih (k + 1)
  | v :: as, k, n => by
    rw [rs_al, List.map_cons, lv_args, rs_cat]
    by_cases h : v.category = 2
    · rw [if_pos ((rs_c2_cat v).mpr h), if_pos h, ← rs_la_app b base as (k + 2) n]
      rfl
    · rw [if_neg (fun z => h ((rs_c2_cat v).mp z)), if_neg h, ← rs_la_app b base as (k + 1) n]
      rfl
