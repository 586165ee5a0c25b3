/-! what the words of the run are, in lw_tbl -/
theorem rs_has_s {w : Cond} (h : rs_has w = true) : w ∈ lw_tbl := by
  obtain ⟨u, hu, hq⟩ := List.any_eq_true.mp h
  rw [Bool.and_eq_true] at hq
  rw [← of_decide_eq_true hq.2]
  exact hu
theorem rs_codeT_s {y : MethodName} {q : ByteArray × Nat × Option FieldType} (h : rs_codeT y = some q) : Cond.code y q.1 q.2.1 q.2.2 ∈ lw_tbl := by
  obtain ⟨w, hw, hf⟩ := List.exists_of_findSome?_eq_some h
  split at hf
  · split at hf
    · rename_i e
      cases hf
      subst e
      exact hw
    · cases hf
  · cases hf
theorem rs_ml_s {own : String} {i : Nat} {y : MethodName} {o : Option String} (h : rs_ml own i = some (y, o)) : match o with
    | none => Cond.methodLink own i y ∈ lw_tbl
    | some hs => Cond.methodLinkNest own i y hs ∈ lw_tbl := by
  obtain ⟨w, hw, hf⟩ := List.exists_of_findSome?_eq_some h
  split at hf
  · split at hf
    · rename_i e
      obtain ⟨e2, e1⟩ := e
      cases hf
      subst e1; subst e2
      exact hw
    · cases hf
  · split at hf
    · rename_i e
      obtain ⟨e2, e1⟩ := e
      cases hf
      subst e1; subst e2
      exact hw
    · cases hf
  · cases hf
theorem rs_ic_s {own : String} {i : Nat} {v : Int32} (h : rs_ic own i = some v) : Cond.constant own i v ∈ lw_tbl := by
  obtain ⟨w, hw, hf⟩ := List.exists_of_findSome?_eq_some h
  split at hf
  · split at hf
    · rename_i e
      obtain ⟨e2, e1⟩ := e
      cases hf
      subst e1; subst e2
      exact hw
    · cases hf
  · cases hf
theorem rs_lc_s {own : String} {i : Nat} {v : Int64} (h : rs_lc own i = some v) : Cond.constantLong own i v ∈ lw_tbl := by
  obtain ⟨w, hw, hf⟩ := List.exists_of_findSome?_eq_some h
  split at hf
  · split at hf
    · rename_i e
      obtain ⟨e2, e1⟩ := e
      cases hf
      subst e1; subst e2
      exact hw
    · cases hf
  · cases hf
theorem rs_cn_s {own : String} {i : Nat} {C : String} (h : rs_cn own i = some C) : Cond.classLink own i C ∈ lw_tbl := by
  obtain ⟨w, hw, hf⟩ := List.exists_of_findSome?_eq_some h
  split at hf
  · split at hf
    · rename_i e
      obtain ⟨e2, e1⟩ := e
      cases hf
      subst e1; subst e2
      exact hw
    · cases hf
  · cases hf
theorem rs_find_kind {k : Nat} (h : rs_kindOf k.repr < 12) : True := trivial
theorem rs_kindOf_s {C : String} {r : vw_C} (h : rs_cl[rs_kindOf C]? = some r) (hr : (r.1 == C) = true) : r.1 = C := eq_of_beq hr
theorem rs_fl_s {own : String} {i : Nat} {f : Nat × Nat × FieldType × Bool} (h : rs_fl own i = some f) : ∃ r : vw_C, rs_cl[f.1]? = some r ∧ f.2.1 < r.2.2 ∧ f.2.2.1 = rs_ty f.1 f.2.1 ∧ f.2.2.2 = (r.2.1 f.2.1).2.2.2 ∧ (r.2.1 f.2.1).1 = r.1 ∧ Cond.fieldLink own i r.1 (r.2.1 f.2.1).2.1 (r.2.1 f.2.1).2.2.1 ∈ lw_tbl := by
  unfold rs_fl at h
  split at h
  · cases h
  · rename_i q hq
    obtain ⟨w, hw, hf⟩ := List.exists_of_findSome?_eq_some hq
    obtain ⟨k, hk, h2⟩ := List.exists_of_findSome?_eq_some h
    split at hf
    · split at hf
      · rename_i e
        obtain ⟨e2, e1⟩ := e
        cases hf
        subst e1; subst e2
        split at h2
        · rename_i r hr
          split at h2
          · rename_i hC
            obtain ⟨j, hj, h3⟩ := List.exists_of_findSome?_eq_some h2
            split at h3
            · rename_i hT
              cases h3
              refine ⟨r, hr, List.mem_range.mp hj, rfl, rfl, hT.1.trans hC.symm, ?_⟩
              dsimp only at hT hC ⊢
              rw [hC, hT.2.1, hT.2.2]
              exact hw
            · cases h3
          · cases h2
        · cases h2
      · cases hf
    · cases hf
def rs_tb : List Jvm.Cond := lw_tbl.filter goodWord
theorem rs_tb_in {w : Jvm.Cond} (h : w ∈ lw_tbl) (hg : goodWord w = true) : w ∈ rs_tb := List.mem_filter.mpr ⟨h, hg⟩
theorem rs_goodC {y : MethodName} {b : ByteArray} {n : Nat} {r : Option FieldType} (h : Cond.code y b n r ∈ lw_tbl) : GoodIn rs_tb (Cond.code y b n r :: rs_tb) := fun w hw => by
  rcases List.mem_cons.mp hw with rfl | hw
  · exact ⟨rs_tb_in h rfl, good_of_word (w := Cond.code y b n r) rfl⟩
  · exact ⟨hw, good_of_word (List.mem_filter.mp hw).2⟩
/-- the fields' rows stand in the table -/
theorem rs_lays : ∀ k, k < 12 → ∀ r, rs_cl[k]? = some r → ∀ w ∈ u_ws r.1 r.2.1 r.2.2, w ∈ rs_tb := by
  intro k hk r hr
  have h : ∀ k, k < 12 → (match rs_cl[k]? with | some r => (u_ws r.1 r.2.1 r.2.2).all (fun w => rs_has w && goodWord w) | none => true) = true := by decide +kernel
  have h1 := h k hk
  rw [hr] at h1
  intro w hw
  have h2 := List.all_eq_true.mp h1 w hw
  rw [Bool.and_eq_true] at h2
  exact List.mem_filter.mpr ⟨rs_has_s h2.1, h2.2⟩
theorem rs_types : ∀ k, k < 12 → ∀ r, rs_cl[k]? = some r → ∀ j, j < r.2.2 → parseFieldDescriptor (r.2.1 j).2.2.1 = some (rs_ty k j) := by
  intro k hk r hr
  match k, hk, hr with
  | 0, _, hr => cases hr; exact tyX1_ok
  | 1, _, hr => cases hr; exact tyX2_ok
  | 2, _, hr => cases hr; exact tyX3_ok
  | 3, _, hr => cases hr; exact tyX4_ok
  | 4, _, hr => cases hr; exact tyX5_ok
  | 5, _, hr => cases hr; exact tyX6_ok
  | 6, _, hr => cases hr; exact tyX7_ok
  | 7, _, hr => cases hr; exact tyX8_ok
  | 8, _, hr => cases hr; exact tyX9_ok
  | 9, _, hr => cases hr; exact tyX10_ok
  | 10, _, hr => cases hr; exact tyX11_ok
  | 11, _, hr => cases hr; exact tyX12_ok
theorem rs_names : ∀ k, k < 12 → ∀ r, rs_cl[k]? = some r → ∀ a, a < r.2.2 → ∀ b, b < r.2.2 → a ≠ b → (r.2.1 a).2.1 ≠ (r.2.1 b).2.1 := by
  intro k hk r hr
  match k, hk, hr with
  | 0, _, hr => cases hr; exact nmX1
  | 1, _, hr => cases hr; exact nmX2
  | 2, _, hr => cases hr; exact nmX3
  | 3, _, hr => cases hr; exact nmX4
  | 4, _, hr => cases hr; exact nmX5
  | 5, _, hr => cases hr; exact nmX6
  | 6, _, hr => cases hr; exact nmX7
  | 7, _, hr => cases hr; exact nmX8
  | 8, _, hr => cases hr; exact nmX9
  | 9, _, hr => cases hr; exact nmX10
  | 10, _, hr => cases hr; exact nmX11
  | 11, _, hr => cases hr; exact nmX12
theorem rs_clt {k : Nat} {r : vw_C} (h : rs_cl[k]? = some r) : k < 12 := (List.getElem?_eq_some_iff.mp h).1
/-- the words that a change of the tables' warmth doesn't carry by itself -/
def rs_Nw (U : State) : Prop := (∀ o i y h, Cond.methodLinkNest o i y h ∈ lw_tbl → va_Nw (.methodLinkNest o i y h) U) ∧ ∀ C, Cond.arrayOver (.object C) ∈ lw_tbl → va_AO C U
theorem rs_Nw.warm {s U : State} (hW : s.WarmedH U.vm) (h : rs_Nw s) : rs_Nw U := ⟨fun o i y hs hm => va_Nw.warmM hW (h.1 o i y hs hm), fun C hm => va_AO.moved hW.alike (h.2 C hm)⟩
theorem rs_Nw.same {s U : State} (hv : s.vm = U.vm) (h : rs_Nw s) : rs_Nw U := ⟨fun o i y hs hm => va_Nw.same rfl hv (h.1 o i y hs hm), fun C hm => va_AO.moved (by rw [hv]; exact Vm.Alike.refl U.vm) (h.2 C hm)⟩
theorem rs_obj : Cond.instanceMethod Lib.objectInit ∈ lw_tbl ∧ Cond.code Lib.objectInit ⟨#[0xb1]⟩ 1 none ∈ lw_tbl := ⟨rs_has_s (by decide +kernel), rs_has_s (by decide +kernel)⟩
theorem rs_akt : ∀ k, k < 20 → 15 ≤ k → ∃ r, rs_cl[rs_ak k]? = some r ∧ rs_aty k = some (.object r.1) := by
  intro k h1 h2
  rcases (show k = 15 ∨ k = 16 ∨ k = 17 ∨ k = 18 ∨ k = 19 by omega) with rfl | rfl | rfl | rfl | rfl
  · exact ⟨_, rfl, rfl⟩
  · exact ⟨_, rfl, rfl⟩
  · exact ⟨_, rfl, rfl⟩
  · exact ⟨_, rfl, rfl⟩
  · exact ⟨_, rfl, rfl⟩
theorem rs_mthw : (Cond.initialized "java/lang/Math" ∈ lw_tbl) ∧ (Cond.static Lib.Math.max.name ∈ lw_tbl ∧ Cond.code Lib.Math.max.name Lib.Math.max.code 2 (some .int) ∈ lw_tbl) ∧ (Cond.static Lib.MathLoose.max_long.x ∈ lw_tbl ∧ Cond.code Lib.MathLoose.max_long.x Lib.MathLoose.max_long.code 4 (some .long) ∈ lw_tbl) ∧ (Cond.static Lib.MathLoose.min_long.x ∈ lw_tbl ∧ Cond.code Lib.MathLoose.min_long.x Lib.MathLoose.min_long.code 4 (some .long) ∈ lw_tbl) :=
  ⟨rs_has_s (by decide +kernel), ⟨rs_has_s (by decide +kernel), rs_has_s (by decide +kernel)⟩, ⟨rs_has_s (by decide +kernel), rs_has_s (by decide +kernel)⟩, ⟨rs_has_s (by decide +kernel), rs_has_s (by decide +kernel)⟩⟩
theorem rs_jm_s {own : String} {i k : Nat} (h : rs_jm own i = some k) : (k = 0 ∧ Cond.methodLink own i Lib.Math.max.name ∈ lw_tbl) ∨ (k = 1 ∧ Cond.methodLink own i Lib.MathLoose.max_long.x ∈ lw_tbl) ∨ (k = 2 ∧ Cond.methodLink own i Lib.MathLoose.min_long.x ∈ lw_tbl) := by
  unfold rs_jm at h
  split at h
  · rename_i y hy
    have hm := rs_ml_s hy
    dsimp only at hm
    by_cases h0 : y = Lib.Math.max.name
    · rw [if_pos h0] at h; cases h; rw [h0] at hm; exact Or.inl ⟨rfl, hm⟩
    · rw [if_neg h0] at h
      by_cases h1 : y = Lib.MathLoose.max_long.x
      · rw [if_pos h1] at h; cases h; rw [h1] at hm; exact Or.inr (Or.inl ⟨rfl, hm⟩)
      · rw [if_neg h1] at h
        by_cases h2 : y = Lib.MathLoose.min_long.x
        · rw [if_pos h2] at h; cases h; rw [h2] at hm; exact Or.inr (Or.inr ⟨rfl, hm⟩)
        · rw [if_neg h2] at h; cases h
  · cases h
