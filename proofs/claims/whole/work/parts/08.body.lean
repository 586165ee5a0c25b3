/-! one step of the run is one step of the machine -/
theorem rs_cs_i {lo : Int} {o : List Int} {pc : Nat} {d : Int} {a : Int32} (h1 : -2147483648 ≤ lo) (h2 : lo + (o.length : Int) ≤ 2147483648) (t : Nat) : ∀ (n j0 : Nat), j0 + n = o.length →
    ((a.toInt < lo + j0 ∨ lo + (o.length : Int) ≤ a.toInt) ∧ rs_sw ((List.range' j0 n).map fun (j : Nat) => (Int32.ofInt (lo + (j : Int)), ((pc : Int) + o.getD j 0).toNat)) t a = t) ∨
    (∃ j : Nat, j0 ≤ j ∧ j < o.length ∧ a.toInt = lo + j ∧ rs_sw ((List.range' j0 n).map fun (j : Nat) => (Int32.ofInt (lo + (j : Int)), ((pc : Int) + o.getD j 0).toNat)) t a = ((pc : Int) + o.getD j 0).toNat) := by
  intro n
  induction n with
  | zero =>
    intro j0 hj
    refine Or.inl ⟨?_, rfl⟩
    omega
  | succ n ih =>
    intro j0 hj
    rw [show List.range' j0 (n + 1) = j0 :: List.range' (j0 + 1) n from rfl, List.map_cons, rs_sw]
    by_cases e : a = Int32.ofInt (lo + (j0 : Int))
    · refine Or.inr ⟨j0, Nat.le_refl _, by omega, ?_, ?_⟩
      · rw [e, Int32.toInt_ofInt_of_le (by omega) (by omega)]
      · rw [if_pos e]
    · dsimp only
      rw [if_neg e]
      rcases ih (j0 + 1) (by omega) with ⟨h3, h4⟩ | ⟨j, h3, h4, h5, h6⟩
      · refine Or.inl ⟨?_, h4⟩
        rcases h3 with h3 | h3
        · refine Or.inl ?_
          have h5 : ¬ a.toInt = lo + j0 := by
            intro h6
            apply e
            apply Int32.toInt_inj.mp
            rw [h6, Int32.toInt_ofInt_of_le (by omega) (by omega)]
          push_cast at h3
          omega
        · exact Or.inr h3
      · exact Or.inr ⟨j, by omega, h4, h5, h6⟩
theorem rs_put_nx {f : Option (Nat × Nat × FieldType)} {st : List Value} {w : rs_H} {o : List Value × rs_H} (h : rs_put f st w = some o) : o.2.2.1 = w.2.1 ∧ o.2.2.2 = w.2.2 := by
  unfold rs_put at h
  split at h
  · split at h
    · split at h
      · cases h; exact ⟨rfl, rfl⟩
      · cases h
    · cases h
  · cases h
theorem rs_ast_nx {k : Nat} {st : List Value} {w : rs_H} {o : List Value × rs_H} (h : rs_ast k st w = some o) : o.2.2.1 = w.2.1 ∧ o.2.2.2 = w.2.2 := by
  unfold rs_ast at h
  split at h
  · split at h
    · split at h
      · cases h; exact ⟨rfl, rfl⟩
      · cases h
    · cases h
  · cases h
theorem rs_call_no {lk : Option (MethodName × Nat × Nat)} {mode nx : Nat} {st : List Value} {w : rs_H} {z : Nat × rs_L × List Value × rs_H} (h : rs_call lk mode nx st w = some (.inl z)) : False := by
  unfold rs_call at h
  split at h
  · cases h
  · split at h
    · cases h
    · split at h
      · split at h <;> cases h
      · split at h
        · split at h
          · split at h <;> cases h
          · cases h
        · cases h
      · split at h
        · split at h <;> cases h
        · cases h
theorem rs_ret_no {y : MethodName} {i : Instr} {a : Nat × Nat × Nat × List (Int32 × Nat) × Value} {L : rs_L} {st : List Value} {w : rs_H} {z : Nat × rs_L × List Value × rs_H} (hi : i = .ireturn ∨ i = .lreturn ∨ i = .areturn ∨ i = .return_) (h : rs_exec y (i, a) L st w = some (.inl z)) : False := by
  rcases hi with rfl | rfl | rfl | rfl
  · unfold rs_exec at h
    dsimp only at h
    split at h
    · split at h <;> cases h
    · cases h
  · unfold rs_exec at h
    dsimp only at h
    split at h <;> cases h
  · unfold rs_exec at h
    dsimp only at h
    split at h
    · split at h <;> cases h
    · cases h
  · unfold rs_exec at h
    dsimp only at h
    split at h <;> cases h
theorem rs_lc_g (o : String) (i : Nat) (v : Int64) : goodWord (Cond.constantLong o i v) = true := by
  simp [goodWord, Cond.onTables, Cond.keeps, Cond.steady]
theorem rs_lc_c {y : MethodName} {j : Nat} {n nx t : Nat} {cs : List (Int32 × Nat)} {L : rs_L} {st : List Value} {w : rs_H} {z : Nat × rs_L × List Value × rs_H} (hz : rs_exec y (.ldc2_w j, n, nx, t, cs, rs_cv y.cls (.ldc2_w j)) L st w = some (.inl z)) : ∃ v, rs_lc y.cls j = some v ∧ z = (nx, L, .long v :: st, w) := by
  unfold rs_exec at hz
  dsimp only at hz
  cases hv : rs_lc y.cls j with
  | none => rw [hv] at hz; cases hz
  | some v =>
    have e : rs_cv y.cls (.ldc2_w j) = .long v := by
      unfold rs_cv
      dsimp only
      rw [hv]
    rw [e, hv] at hz
    cases hz
    exact ⟨v, rfl, rfl⟩
theorem rs_ic_g (o : String) (i : Nat) (v : Int32) : goodWord (Cond.constant o i v) = true := by
  simp [goodWord, Cond.onTables, Cond.keeps, Cond.steady]
theorem rs_ic_c {y : MethodName} {i : Instr} {j : Nat} {n nx t : Nat} {cs : List (Int32 × Nat)} {L : rs_L} {st : List Value} {w : rs_H} {z : Nat × rs_L × List Value × rs_H} (hi : i = .ldc j ∨ i = .ldc_w j) (hz : rs_exec y (i, n, nx, t, cs, rs_cv y.cls i) L st w = some (.inl z)) : ∃ v, rs_ic y.cls j = some v ∧ z = (nx, L, .int v :: st, w) := by
  rcases hi with rfl | rfl
  · unfold rs_exec at hz
    dsimp only at hz
    cases hv : rs_ic y.cls j with
    | none => rw [hv] at hz; cases hz
    | some v =>
      have e : rs_cv y.cls (.ldc j) = .int v := by
        unfold rs_cv
        dsimp only
        rw [hv]
      rw [e, hv] at hz
      cases hz
      exact ⟨v, rfl, rfl⟩
  · unfold rs_exec at hz
    dsimp only at hz
    cases hv : rs_ic y.cls j with
    | none => rw [hv] at hz; cases hz
    | some v =>
      have e : rs_cv y.cls (.ldc_w j) = .int v := by
        unfold rs_cv
        dsimp only
        rw [hv]
      rw [e, hv] at hz
      cases hz
      exact ⟨v, rfl, rfl⟩
section RSB
variable {p : Program} {l : Launch} {e : Env} {R : Room} {s : State} {m : MethodId} {args : Array Value} {below : List Frame} {meth : Method} {c : Code} {H : Heap} {locs : List Loc} {cells slots : Nat} {Q : State → Prop} {cc : ByteArray} {pc : Nat} {ls : Array Slot} {b base : Nat} {st : List Value} {D : va_G} {y : MethodName} {w : rs_H} {L : rs_L}
theorem rs_table_W (hx : p.tables.exec = Jvm.exec) (hb : c.code = cc) {d lo hi : Int} {offs : Array Int} {n : Nat} {a : Int32} (hd : decode cc pc = .ok (.tableswitch d lo hi offs, n)) (hok : rs_okI pc n (.tableswitch d lo hi offs) = true) (kk : W p l e R s m args below meth c H locs cells slots Q (F0 m (rs_sw (rs_cs pc (.tableswitch d lo hi offs)) ((pc : Int) + d).toNat a) ls (st.map (rs_v b base)))) : W p l e R s m args below meth c H locs cells slots Q (F0 m pc ls ((.int a :: st).map (rs_v b base))) := by
  have ht := rs_okI_t hok
  simp only [rs_okI, Bool.and_eq_true, decide_eq_true_eq, List.all_eq_true] at hok
  obtain ⟨h0, h1, h2, h3, h4⟩ := hok
  have hlen : offs.toList.length = offs.size := Array.length_toList
  have hcs : rs_cs pc (.tableswitch d lo hi offs) = (List.range' 0 offs.toList.length).map fun (j : Nat) => (Int32.ofInt (lo + (j : Int)), ((pc : Int) + offs.toList.getD j 0).toNat) := by
    rw [hlen, ← List.range_eq_range']; rfl
  rw [hcs] at kk
  rcases rs_cs_i (pc := pc) (d := d) (a := a) (lo := lo) (o := offs.toList) h1 (by rw [hlen]; omega) ((pc : Int) + d).toNat offs.toList.length 0 (Nat.zero_add _) with ⟨h5, h6⟩ | ⟨j, h5, h6, h7, h8⟩
  · rw [h6] at kk
    refine lv_tableOut hx hb hd ?_ ht kk
    rw [hlen] at h5
    push_cast at h5
    omega
  · rw [h8] at kk
    rw [hlen] at h6
    have hj : (a.toInt - lo).toNat = j := by omega
    have ho : offs[j]? = some (offs.toList.getD j 0) := by
      rw [← Array.getElem?_toList, List.getD_eq_getElem?_getD]
      have : j < offs.toList.length := by omega
      rw [List.getElem?_eq_getElem this]
      rfl
    have hnn : 0 ≤ (pc : Int) + offs.toList.getD j 0 := by
      refine h4 _ ?_
      have : j < offs.toList.length := by omega
      rw [List.getD_eq_getElem?_getD, List.getElem?_eq_getElem this]
      exact List.getElem_mem this
    exact lv_tableIn hx hb hd (by omega) (by omega) (by rw [hj]; exact ho) (Int.toNat_of_nonneg hnn).symm kk
theorem rs_s4_8 {r : List Value} (h : rs_s4 r = true) : ((r.map (rs_v b base)).map fun v => v.category).sum ≤ 8 := by
  have hc : ∀ v : Value, (rs_v b base v).category ≤ 2 := fun v => by rw [rs_cat]; rcases lv_cat v with q | q <;> omega
  have hc1 : ∀ v : Value, rs_c2 v = false → (rs_v b base v).category = 1 := fun v h => by rw [rs_cat]; cases v <;> first | rfl | cases h
  match r, h with
  | [], _ => simp
  | [a], _ => have := hc a; simp; omega
  | [a, a2], _ => have := hc a; have := hc a2; simp; omega
  | [a, a2, a3], _ => have := hc a; have := hc a2; have := hc a3; simp; omega
  | [a, a2, a3, a4], _ => have := hc a; have := hc a2; have := hc a3; have := hc a4; simp; omega
  | [a, a2, a3, a4, a5], h =>
    have h : (!(rs_c2 a || (rs_c2 a2 || (rs_c2 a3 || (rs_c2 a4 || rs_c2 a5))))) = true := h
    simp only [Bool.not_eq_true', Bool.or_eq_false_iff] at h
    obtain ⟨h1, h2, h3, h4, h5⟩ := h
    have := hc1 a h1; have := hc1 a2 h2; have := hc1 a3 h3; have := hc1 a4 h4; have := hc1 a5 h5
    simp; omega
  | [a, a2, a3, a4, a5, a6], h =>
    have h : (!(rs_c2 a || (rs_c2 a2 || (rs_c2 a3 || (rs_c2 a4 || (rs_c2 a5 || rs_c2 a6)))))) = true := h
    simp only [Bool.not_eq_true', Bool.or_eq_false_iff] at h
    obtain ⟨h1, h2, h3, h4, h5, h6⟩ := h
    have := hc1 a h1; have := hc1 a2 h2; have := hc1 a3 h3; have := hc1 a4 h4; have := hc1 a5 h5; have := hc1 a6 h6
    simp; omega
  | _ :: _ :: _ :: _ :: _ :: _ :: _ :: _, h => cases h
theorem rs_alu_c (hx : p.tables.exec = Jvm.exec) (hb : c.code = cc) {i : Instr} {n nx : Nat} {a : Nat × List (Int32 × Nat) × Value} {z : Nat × rs_L × List Value × rs_H} (h : rs_exec y (i, n, nx, a) L st w = some (.inl z)) (he : rs_exec y (i, n, nx, a) L st w = (rs_alu i st).map (fun r => (.inl (nx, L, r, w) : rs_O))) (hd : decode cc pc = .ok (i, 1)) (hnx : nx = pc + 1) (k : ∀ st', z = (pc + 1, L, st', w) → W p l e R s m args below meth c H locs cells slots Q (F0 m (pc + 1) ls (st'.map (rs_v b base)))) : W p l e R s m args below meth c H locs cells slots Q (F0 m pc ls (st.map (rs_v b base))) := by
  subst hnx
  rw [he] at h
  cases hv : rs_alu i st with
  | none => rw [hv] at h; cases h
  | some st' =>
    rw [hv] at h
    cases h
    exact rs_alu_W hx hb hv hd (k st' rfl)
theorem rs_mth_W (hM : rs_M D p s m args meth c y) (hb : c.code = cc) (hml : c.maxLocals = ls.size) (hR0 : 1 ≤ R.frames ∧ 64 ≤ R.locals) (hc : cells ≤ R.cells) (hs : slots ≤ R.slots) {i : Nat} {st' : List Value} (h : rs_mth (rs_jm y.cls i) st = some st') (hd : decode cc pc = .ok (.invokestatic i, 3)) (k : W p l e R s m args below meth c H locs cells slots Q (F0 m (pc + 3) ls (st'.map (rs_v b base)))) : W p l e R s m args below meth c H locs cells slots Q (F0 m pc ls (st.map (rs_v b base))) := by
  obtain ⟨hx, -, hown, hts, -, -, -⟩ := hM
  have hR1 := hR0.2
  unfold rs_mth at h
  split at h
  · rename_i z x r hj
    by_cases h4 : rs_s4 r = true
    · rw [if_pos h4] at h
      cases h
      have h8 := rs_s4_8 (b := b) (base := base) h4
      rcases rs_jm_s hj with ⟨-, hl⟩ | ⟨e, -⟩ | ⟨e, -⟩
      · exact va_mmax hx hb hml hown (hts _ (rs_tb_in hl rfl)) (hts _ (rs_tb_in rs_mthw.2.1.1 rfl)) (hts _ (rs_tb_in rs_mthw.1 rfl)) (hts _ (rs_tb_in rs_mthw.2.1.2 rfl)) hR0.1 (by omega) hc hs hd k
      · cases e
      · cases e
    · rw [if_neg h4] at h; cases h
  · rename_i z x r hj
    by_cases h4 : rs_s4 r = true
    · rw [if_pos h4] at h
      cases h
      have h8 := rs_s4_8 (b := b) (base := base) h4
      rcases rs_jm_s hj with ⟨e, -⟩ | ⟨-, hl⟩ | ⟨e, -⟩
      · cases e
      · exact va_mmax_long hx hb hml hown (hts _ (rs_tb_in hl rfl)) (hts _ (rs_tb_in rs_mthw.2.2.1.1 rfl)) (hts _ (rs_tb_in rs_mthw.1 rfl)) (hts _ (rs_tb_in rs_mthw.2.2.1.2 rfl)) hR0.1 (by omega) hc hs hd k
      · cases e
    · rw [if_neg h4] at h; cases h
  · rename_i z x r hj
    by_cases h4 : rs_s4 r = true
    · rw [if_pos h4] at h
      cases h
      have h8 := rs_s4_8 (b := b) (base := base) h4
      rcases rs_jm_s hj with ⟨e, -⟩ | ⟨e, -⟩ | ⟨-, hl⟩
      · cases e
      · cases e
      · exact va_mmin_long hx hb hml hown (hts _ (rs_tb_in hl rfl)) (hts _ (rs_tb_in rs_mthw.2.2.2.1 rfl)) (hts _ (rs_tb_in rs_mthw.1 rfl)) (hts _ (rs_tb_in rs_mthw.2.2.2.2 rfl)) hR0.1 (by omega) hc hs hd k
    · rw [if_neg h4] at h; cases h
  · cases h
set_option maxHeartbeats 8000000 in
set_option maxRecDepth 100000 in
theorem rs_next (hM : rs_M D p s m args meth c y) (hG : rs_G D s b base w H) (hS : va_S (fun q => base ≤ q) s.heap H locs) (hlen : L.length = c.maxLocals) (hl : lv_has ls c.maxLocals (rs_la b base 0 L)) {c0 s0 : Nat} (hc : cells + c0 = w.2.1) (hs : slots + s0 = w.2.2) (hR0 : 1 ≤ R.frames ∧ 64 ≤ R.locals)
    {z : Nat × rs_L × List Value × rs_H} (hz : rs_step y pc L st w = some (.inl z)) (hR : z.2.2.2.2.1 ≤ R.cells + c0 ∧ z.2.2.2.2.2 ≤ R.slots + s0)
    (kk : ∀ H1 locs1 cells1 slots1 ls1, rs_G D s b base z.2.2.2 H1 → va_S (fun q => base ≤ q) s.heap H1 locs1 → cells1 + c0 = z.2.2.2.2.1 → slots1 + s0 = z.2.2.2.2.2 → z.2.1.length = c.maxLocals → lv_has ls1 c.maxLocals (rs_la b base 0 z.2.1) → W p l e R s m args below meth c H1 locs1 cells1 slots1 Q (F0 m z.1 ls1 (z.2.2.1.map (rs_v b base)))) :
    W p l e R s m args below meth c H locs cells slots Q (F0 m pc ls (st.map (rs_v b base))) := by
  have hx := hM.1
  obtain ⟨q0, hcode, hb, hml⟩ := hM.2.1
  have hown := hM.2.2.1
  have hts := hM.2.2.2.1
  unfold rs_step at hz
  split at hz
  · cases hz
  · rename_i q hq
    obtain ⟨q0', hcode', i, n, hd, hok, rfl⟩ := rs_dec_s hq
    cases hcode.symm.trans hcode'
    have ht := rs_okI_t hok
    have same : ∀ {pc' : Nat} {st' : List Value}, z = (pc', L, st', w) → W p l e R s m args below meth c H locs cells slots Q (F0 m pc' ls (st'.map (rs_v b base))) := by
      intro pc' st' e
      subst e
      exact kk H locs cells slots ls hG hS hc hs hlen hl
    cases i
    case iconst v =>
      obtain rfl := rs_okI_len (by intros; contradiction) hok
      cases hz
      exact lv_iconst hx hb hd rfl (same rfl)
    case bipush v =>
      obtain rfl := rs_okI_len (by intros; contradiction) hok
      cases hz
      exact lv_bipush hx hb hd rfl (same rfl)
    case sipush v =>
      obtain rfl := rs_okI_len (by intros; contradiction) hok
      cases hz
      exact lv_sipush hx hb hd rfl (same rfl)
    case lconst v =>
      obtain rfl := rs_okI_len (by intros; contradiction) hok
      cases hz
      exact lv_lconst hx hb hd rfl (same rfl)
    case ldc j =>
      obtain rfl := rs_okI_len (by intros; contradiction) hok
      obtain ⟨v, hv, hz'⟩ := rs_ic_c (Or.inl rfl) hz
      exact lv_ldc (own := y.cls) (v := v) hx hb hown (hts _ (rs_tb_in (rs_ic_s hv) (rs_ic_g _ _ _))) hd (same hz')
    case ldc_w j =>
      obtain rfl := rs_okI_len (by intros; contradiction) hok
      obtain ⟨v, hv, hz'⟩ := rs_ic_c (Or.inr rfl) hz
      exact lv_ldcw (own := y.cls) (v := v) hx hb hown (hts _ (rs_tb_in (rs_ic_s hv) (rs_ic_g _ _ _))) hd (same hz')
    case ldc2_w j =>
      obtain rfl := rs_okI_len (by intros; contradiction) hok
      obtain ⟨v, hv, hz'⟩ := rs_lc_c hz
      exact lv_ldc2 (own := y.cls) (v := v) hx hb hown (hts _ (rs_tb_in (rs_lc_s hv) (rs_lc_g _ _ _))) hd (same hz')
    case iload j =>
      obtain rfl := rs_okI_len (by intros; contradiction) hok
      have hz' : (rs_load (.iload j) L).map (fun v => (.inl (pc + rs_len (.iload j), L, v :: st, w) : rs_O)) = some (.inl z) := hz
      cases hv : rs_load (.iload j) L with
      | none => rw [hv] at hz'; cases hz'
      | some v =>
        rw [hv] at hz'
        cases hz'
        exact rs_load_W hx hb hl hv hd (same rfl)
    case iload_n j =>
      obtain rfl := rs_okI_len (by intros; contradiction) hok
      have hz' : (rs_load (.iload_n j) L).map (fun v => (.inl (pc + rs_len (.iload_n j), L, v :: st, w) : rs_O)) = some (.inl z) := hz
      cases hv : rs_load (.iload_n j) L with
      | none => rw [hv] at hz'; cases hz'
      | some v =>
        rw [hv] at hz'
        cases hz'
        exact rs_load_W hx hb hl hv hd (same rfl)
    case lload j =>
      obtain rfl := rs_okI_len (by intros; contradiction) hok
      have hz' : (rs_load (.lload j) L).map (fun v => (.inl (pc + rs_len (.lload j), L, v :: st, w) : rs_O)) = some (.inl z) := hz
      cases hv : rs_load (.lload j) L with
      | none => rw [hv] at hz'; cases hz'
      | some v =>
        rw [hv] at hz'
        cases hz'
        exact rs_load_W hx hb hl hv hd (same rfl)
    case lload_n j =>
      obtain rfl := rs_okI_len (by intros; contradiction) hok
      have hz' : (rs_load (.lload_n j) L).map (fun v => (.inl (pc + rs_len (.lload_n j), L, v :: st, w) : rs_O)) = some (.inl z) := hz
      cases hv : rs_load (.lload_n j) L with
      | none => rw [hv] at hz'; cases hz'
      | some v =>
        rw [hv] at hz'
        cases hz'
        exact rs_load_W hx hb hl hv hd (same rfl)
    case aload j =>
      obtain rfl := rs_okI_len (by intros; contradiction) hok
      have hz' : (rs_load (.aload j) L).map (fun v => (.inl (pc + rs_len (.aload j), L, v :: st, w) : rs_O)) = some (.inl z) := hz
      cases hv : rs_load (.aload j) L with
      | none => rw [hv] at hz'; cases hz'
      | some v =>
        rw [hv] at hz'
        cases hz'
        exact rs_load_W hx hb hl hv hd (same rfl)
    case aload_n j =>
      obtain rfl := rs_okI_len (by intros; contradiction) hok
      have hz' : (rs_load (.aload_n j) L).map (fun v => (.inl (pc + rs_len (.aload_n j), L, v :: st, w) : rs_O)) = some (.inl z) := hz
      cases hv : rs_load (.aload_n j) L with
      | none => rw [hv] at hz'; cases hz'
      | some v =>
        rw [hv] at hz'
        cases hz'
        exact rs_load_W hx hb hl hv hd (same rfl)
    case istore j =>
      obtain rfl := rs_okI_len (by intros; contradiction) hok
      cases st with
      | nil => cases hz
      | cons v r =>
        have hz' : (rs_store (.istore j) L v).map (fun l' => (.inl (pc + rs_len (.istore j), l', r, w) : rs_O)) = some (.inl z) := hz
        cases hv : rs_store (.istore j) L v with
        | none => rw [hv] at hz'; cases hz'
        | some L' =>
          rw [hv] at hz'
          cases hz'
          exact rs_store_W hx hb hlen hl hv hd (fun ls1 h1 h2 => kk H locs cells slots ls1 hG hS hc hs h1 h2)
    case istore_n j =>
      obtain rfl := rs_okI_len (by intros; contradiction) hok
      cases st with
      | nil => cases hz
      | cons v r =>
        have hz' : (rs_store (.istore_n j) L v).map (fun l' => (.inl (pc + rs_len (.istore_n j), l', r, w) : rs_O)) = some (.inl z) := hz
        cases hv : rs_store (.istore_n j) L v with
        | none => rw [hv] at hz'; cases hz'
        | some L' =>
          rw [hv] at hz'
          cases hz'
          exact rs_store_W hx hb hlen hl hv hd (fun ls1 h1 h2 => kk H locs cells slots ls1 hG hS hc hs h1 h2)
    case lstore j =>
      obtain rfl := rs_okI_len (by intros; contradiction) hok
      cases st with
      | nil => cases hz
      | cons v r =>
        have hz' : (rs_store (.lstore j) L v).map (fun l' => (.inl (pc + rs_len (.lstore j), l', r, w) : rs_O)) = some (.inl z) := hz
        cases hv : rs_store (.lstore j) L v with
        | none => rw [hv] at hz'; cases hz'
        | some L' =>
          rw [hv] at hz'
          cases hz'
          exact rs_store_W hx hb hlen hl hv hd (fun ls1 h1 h2 => kk H locs cells slots ls1 hG hS hc hs h1 h2)
    case lstore_n j =>
      obtain rfl := rs_okI_len (by intros; contradiction) hok
      cases st with
      | nil => cases hz
      | cons v r =>
        have hz' : (rs_store (.lstore_n j) L v).map (fun l' => (.inl (pc + rs_len (.lstore_n j), l', r, w) : rs_O)) = some (.inl z) := hz
        cases hv : rs_store (.lstore_n j) L v with
        | none => rw [hv] at hz'; cases hz'
        | some L' =>
          rw [hv] at hz'
          cases hz'
          exact rs_store_W hx hb hlen hl hv hd (fun ls1 h1 h2 => kk H locs cells slots ls1 hG hS hc hs h1 h2)
    case astore j =>
      obtain rfl := rs_okI_len (by intros; contradiction) hok
      cases st with
      | nil => cases hz
      | cons v r =>
        have hz' : (rs_store (.astore j) L v).map (fun l' => (.inl (pc + rs_len (.astore j), l', r, w) : rs_O)) = some (.inl z) := hz
        cases hv : rs_store (.astore j) L v with
        | none => rw [hv] at hz'; cases hz'
        | some L' =>
          rw [hv] at hz'
          cases hz'
          exact rs_store_W hx hb hlen hl hv hd (fun ls1 h1 h2 => kk H locs cells slots ls1 hG hS hc hs h1 h2)
    case astore_n j =>
      obtain rfl := rs_okI_len (by intros; contradiction) hok
      cases st with
      | nil => cases hz
      | cons v r =>
        have hz' : (rs_store (.astore_n j) L v).map (fun l' => (.inl (pc + rs_len (.astore_n j), l', r, w) : rs_O)) = some (.inl z) := hz
        cases hv : rs_store (.astore_n j) L v with
        | none => rw [hv] at hz'; cases hz'
        | some L' =>
          rw [hv] at hz'
          cases hz'
          exact rs_store_W hx hb hlen hl hv hd (fun ls1 h1 h2 => kk H locs cells slots ls1 hG hS hc hs h1 h2)
    case iinc j v =>
      obtain rfl := rs_okI_len (by intros; contradiction) hok
      unfold rs_exec at hz
      dsimp only [rs_cv] at hz
      split at hz
      · rename_i a cst hld hcv
        cases hcv
        cases hv : rs_st1 L j (.int (a + Int32.ofInt v)) with
        | none => rw [hv] at hz; cases hz
        | some L' =>
          rw [hv] at hz
          cases hz
          have h1 := rs_st1_s hv
          have hin : (j, rs_v b base (.int a)) ∈ rs_la b base 0 L := (rs_la_in L 0 _).mpr ⟨j, _, hld, by rw [Nat.zero_add]⟩
          obtain ⟨k, hk⟩ := List.getElem?_of_mem hin
          exact lv_iinc hx hb hd hl (k := k) hk rfl (by omega) rfl (fun ls1 hl1 => kk H locs cells slots ls1 hG hS hc hs (h1.2.1.trans hlen) (rs_has_st1 hv hl1))
      · cases hz
    case goto o =>
      obtain rfl := rs_okI_len (by intros; contradiction) hok
      cases hz
      exact lv_goto hx hb hd ht (same rfl)
    case ifCond k o =>
      obtain rfl := rs_okI_len (by intros; contradiction) hok
      unfold rs_exec at hz
      dsimp only at hz
      split at hz
      · cases hz
        exact rs_if_W hx hb ht hd (same rfl)
      · cases hz
    case if_icmp k o =>
      obtain rfl := rs_okI_len (by intros; contradiction) hok
      unfold rs_exec at hz
      dsimp only at hz
      split at hz
      · cases hz
        exact rs_ifi_W hx hb ht hd (same rfl)
      · cases hz
    case ifnull o =>
      obtain rfl := rs_okI_len (by intros; contradiction) hok
      unfold rs_exec at hz
      dsimp only at hz
      split at hz
      · cases hz
        exact lv_ifnullN hx hb hd ht (same rfl)
      · cases hz
        exact lv_ifnull hx hb hd (same rfl)
      · cases hz
    case ifnonnull o =>
      obtain rfl := rs_okI_len (by intros; contradiction) hok
      unfold rs_exec at hz
      dsimp only at hz
      split at hz
      · cases hz
        exact lv_ifnonnullN hx hb hd (same rfl)
      · cases hz
        exact lv_ifnonnull hx hb hd ht (same rfl)
      · cases hz
    case tableswitch d lo hi offs =>
      unfold rs_exec at hz
      dsimp only at hz
      split at hz
      · cases hz
        exact rs_table_W hx hb hd hok (same rfl)
      · cases hz
    case getfield j =>
      obtain rfl := rs_okI_len (by intros; contradiction) hok
      have hz' : (rs_get (rs_fl y.cls j) st w).map (fun r => (.inl (pc + 3, L, r, w) : rs_O)) = some (.inl z) := hz
      cases hv : rs_get (rs_fl y.cls j) st w with
      | none => rw [hv] at hz'; cases hz'
      | some r =>
        rw [hv] at hz'
        cases hz'
        exact rs_get_W hM hb hG hv hd (same rfl)
    case putfield j =>
      obtain rfl := rs_okI_len (by intros; contradiction) hok
      have hz' : (rs_put (rs_pfl y j) st w).map (fun r => (.inl (pc + 3, L, r.1, r.2) : rs_O)) = some (.inl z) := hz
      cases hv : rs_put (rs_pfl y j) st w with
      | none => rw [hv] at hz'; cases hz'
      | some r =>
        rw [hv] at hz'
        cases hz'
        have hsz := rs_put_nx hv
        exact rs_put_W hM hb hG hS hv hd (fun H1 locs1 h1 h2 => kk H1 locs1 cells slots ls h1 h2 (by rw [hsz.1]; exact hc) (by rw [hsz.2]; exact hs) hlen hl)
    case iaload =>
      obtain rfl := rs_okI_len (by intros; contradiction) hok
      have hz' : (rs_ald 12 st w).map (fun r => (.inl (pc + 1, L, r, w) : rs_O)) = some (.inl z) := hz
      cases hv : rs_ald 12 st w with
      | none => rw [hv] at hz'; cases hz'
      | some r =>
        rw [hv] at hz'
        cases hz'
        exact rs_ald_W hM hb hG (Or.inl ⟨rfl, rfl⟩) hv hd (same rfl)
    case laload =>
      obtain rfl := rs_okI_len (by intros; contradiction) hok
      have hz' : (rs_ald 13 st w).map (fun r => (.inl (pc + 1, L, r, w) : rs_O)) = some (.inl z) := hz
      cases hv : rs_ald 13 st w with
      | none => rw [hv] at hz'; cases hz'
      | some r =>
        rw [hv] at hz'
        cases hz'
        exact rs_ald_W hM hb hG (Or.inr (Or.inl ⟨rfl, rfl⟩)) hv hd (same rfl)
    case baload =>
      obtain rfl := rs_okI_len (by intros; contradiction) hok
      have hz' : (rs_ald 14 st w).map (fun r => (.inl (pc + 1, L, r, w) : rs_O)) = some (.inl z) := hz
      cases hv : rs_ald 14 st w with
      | none => rw [hv] at hz'; cases hz'
      | some r =>
        rw [hv] at hz'
        cases hz'
        exact rs_ald_W hM hb hG (Or.inr (Or.inr (Or.inl ⟨rfl, rfl⟩))) hv hd (same rfl)
    case aaload =>
      obtain rfl := rs_okI_len (by intros; contradiction) hok
      have hz' : (rs_ald 99 st w).map (fun r => (.inl (pc + 1, L, r, w) : rs_O)) = some (.inl z) := hz
      cases hv : rs_ald 99 st w with
      | none => rw [hv] at hz'; cases hz'
      | some r =>
        rw [hv] at hz'
        cases hz'
        exact rs_ald_W hM hb hG (Or.inr (Or.inr (Or.inr ⟨rfl, rfl⟩))) hv hd (same rfl)
    case iastore =>
      obtain rfl := rs_okI_len (by intros; contradiction) hok
      have hz' : (rs_ast 12 st w).map (fun r => (.inl (pc + 1, L, r.1, r.2) : rs_O)) = some (.inl z) := hz
      cases hv : rs_ast 12 st w with
      | none => rw [hv] at hz'; cases hz'
      | some r =>
        rw [hv] at hz'
        cases hz'
        have hsz := rs_ast_nx hv
        exact rs_ast_W hM hb hG hS (Or.inl ⟨rfl, rfl⟩) hv hd (fun H1 locs1 h1 h2 => kk H1 locs1 cells slots ls h1 h2 (by rw [hsz.1]; exact hc) (by rw [hsz.2]; exact hs) hlen hl)
    case lastore =>
      obtain rfl := rs_okI_len (by intros; contradiction) hok
      have hz' : (rs_ast 13 st w).map (fun r => (.inl (pc + 1, L, r.1, r.2) : rs_O)) = some (.inl z) := hz
      cases hv : rs_ast 13 st w with
      | none => rw [hv] at hz'; cases hz'
      | some r =>
        rw [hv] at hz'
        cases hz'
        have hsz := rs_ast_nx hv
        exact rs_ast_W hM hb hG hS (Or.inr (Or.inl ⟨rfl, rfl⟩)) hv hd (fun H1 locs1 h1 h2 => kk H1 locs1 cells slots ls h1 h2 (by rw [hsz.1]; exact hc) (by rw [hsz.2]; exact hs) hlen hl)
    case bastore =>
      obtain rfl := rs_okI_len (by intros; contradiction) hok
      have hz' : (rs_ast 14 st w).map (fun r => (.inl (pc + 1, L, r.1, r.2) : rs_O)) = some (.inl z) := hz
      cases hv : rs_ast 14 st w with
      | none => rw [hv] at hz'; cases hz'
      | some r =>
        rw [hv] at hz'
        cases hz'
        have hsz := rs_ast_nx hv
        exact rs_ast_W hM hb hG hS (Or.inr (Or.inr (Or.inl ⟨rfl, rfl⟩))) hv hd (fun H1 locs1 h1 h2 => kk H1 locs1 cells slots ls h1 h2 (by rw [hsz.1]; exact hc) (by rw [hsz.2]; exact hs) hlen hl)
    case aastore =>
      obtain rfl := rs_okI_len (by intros; contradiction) hok
      have hz' : (rs_ast 99 st w).map (fun r => (.inl (pc + 1, L, r.1, r.2) : rs_O)) = some (.inl z) := hz
      cases hv : rs_ast 99 st w with
      | none => rw [hv] at hz'; cases hz'
      | some r =>
        rw [hv] at hz'
        cases hz'
        have hsz := rs_ast_nx hv
        exact rs_ast_W hM hb hG hS (Or.inr (Or.inr (Or.inr ⟨rfl, rfl⟩))) hv hd (fun H1 locs1 h1 h2 => kk H1 locs1 cells slots ls h1 h2 (by rw [hsz.1]; exact hc) (by rw [hsz.2]; exact hs) hlen hl)
    case arraylength =>
      obtain rfl := rs_okI_len (by intros; contradiction) hok
      have hz' : (rs_alen st w).map (fun r => (.inl (pc + 1, L, r, w) : rs_O)) = some (.inl z) := hz
      cases hv : rs_alen st w with
      | none => rw [hv] at hz'; cases hz'
      | some r =>
        rw [hv] at hz'
        cases hz'
        exact rs_alen_W hM hb hG hv hd (same rfl)
    case new j =>
      obtain rfl := rs_okI_len (by intros; contradiction) hok
      have hz' : (rs_newo (rs_nw y.cls j) st w).map (fun r => (.inl (pc + 3, L, r.1, r.2) : rs_O)) = some (.inl z) := hz
      cases hv : rs_newo (rs_nw y.cls j) st w with
      | none => rw [hv] at hz'; cases hz'
      | some r =>
        rw [hv] at hz'
        cases hz'
        exact rs_newo_W hM hb hG hS hv hd hc hs hR (fun H1 c1 s1 h1 h2 h3 h4 => kk H1 locs c1 s1 ls h1 h2 h3 h4 hlen hl)
    case newarray j =>
      obtain rfl := rs_okI_len (by intros; contradiction) hok
      have hz' : (rs_newa (rs_nk j) st w).map (fun r => (.inl (pc + 2, L, r.1, r.2) : rs_O)) = some (.inl z) := hz
      cases hv : rs_newa (rs_nk j) st w with
      | none => rw [hv] at hz'; cases hz'
      | some r =>
        rw [hv] at hz'
        cases hz'
        exact rs_newp_W hM hb hG hS hv hd hc hs hR (fun H1 c1 s1 h1 h2 h3 h4 => kk H1 locs c1 s1 ls h1 h2 h3 h4 hlen hl)
    case anewarray j =>
      obtain rfl := rs_okI_len (by intros; contradiction) hok
      have hz' : (rs_newa (rs_na y.cls j) st w).map (fun r => (.inl (pc + 3, L, r.1, r.2) : rs_O)) = some (.inl z) := hz
      cases hv : rs_newa (rs_na y.cls j) st w with
      | none => rw [hv] at hz'; cases hz'
      | some r =>
        rw [hv] at hz'
        cases hz'
        exact rs_newq_W hM hb hG hS hv hd hc hs hR (fun H1 c1 s1 h1 h2 h3 h4 => kk H1 locs c1 s1 ls h1 h2 h3 h4 hlen hl)
    case invokespecial j =>
      obtain rfl := rs_okI_len (by intros; contradiction) hok
      unfold rs_exec at hz
      dsimp only at hz
      cases ho : rs_oi y.cls j with
      | false => rw [ho, cond_false] at hz; exact (rs_call_no hz).elim
      | true =>
        rw [ho] at hz
        dsimp only [cond_true] at hz
        split at hz
        · rename_i a r
          split at hz
          · rename_i h4
            cases hz
            have hml' := rs_ml_s (of_decide_eq_true ho)
            have hls := hl.1
            refine W.objInit hx hb hown (hts _ (rs_tb_in hml' rfl)) (hts _ (rs_tb_in rs_obj.1 rfl)) (hts _ (rs_tb_in rs_obj.2 rfl)) rfl hls rfl hd hR0.1 ?_ (same rfl)
            have := lv_room (m := m) (pc := pc) (ls := ls) (rest := (Value.ref a :: r).map (rs_v b base)) (rs_s4_8 (b := b) (base := base) h4)
            have h64 := hR0.2
            omega
          · cases hz
        · cases hz
    case invokevirtual j => exact (rs_call_no (show rs_call (rs_lk 1 y.cls j) 1 (pc + n) st w = some (.inl z) from hz)).elim
    case invokestatic j =>
      obtain rfl := rs_okI_len (by intros; contradiction) hok
      unfold rs_exec at hz
      dsimp only at hz
      split at hz
      · exact (rs_call_no hz).elim
      · cases hv : rs_mth (rs_jm y.cls j) st with
        | none => rw [hv] at hz; cases hz
        | some r =>
          rw [hv] at hz
          cases hz
          have hR1 : w.2.1 ≤ R.cells + c0 ∧ w.2.2 ≤ R.slots + s0 := hR
          exact rs_mth_W hM hb hl.1.symm hR0 (by omega) (by omega) hv hd (same rfl)
    case ireturn => exact (rs_ret_no (by simp) hz).elim
    case lreturn => exact (rs_ret_no (by simp) hz).elim
    case areturn => exact (rs_ret_no (by simp) hz).elim
    case return_ => exact (rs_ret_no (by simp) hz).elim
    all_goals
      obtain rfl := rs_okI_len (by intros; contradiction) hok
      exact rs_alu_c hx hb hz rfl hd rfl (fun st' e => same e)
end RSB
