theorem rs_map_no {α : Type} {o : Option α} {f : α → Nat × rs_L × List Value × rs_H} {u : (MethodName × List Value × Nat × List Value) ⊕ Option Value} (h : o.map (fun r => (.inl (f r) : rs_O)) = some (.inr u)) : False := by
  cases o with
  | none => cases h
  | some r => cases h
def rs_isC : Instr → Bool
  | .invokestatic _ | .invokevirtual _ | .invokespecial _ | .ireturn | .lreturn | .areturn | .return_ => true
  | _ => false
set_option maxHeartbeats 4000000 in
theorem rs_exec_no {y : MethodName} {q : rs_I} {L : rs_L} {st : List Value} {w : rs_H} {u : (MethodName × List Value × Nat × List Value) ⊕ Option Value} (hi : rs_isC q.1 = false) (h : rs_exec y q L st w = some (.inr u)) : False := by
  obtain ⟨i, n, nx, t, cs, cv⟩ := q
  have alu : ∀ {i : Instr}, rs_exec y (i, n, nx, t, cs, cv) L st w = some (.inr u) → rs_exec y (i, n, nx, t, cs, cv) L st w = (rs_alu i st).map (fun r => (.inl (nx, L, r, w) : rs_O)) → False := by
    intro i h1 h2
    rw [h2] at h1
    exact rs_map_no h1
  cases i
  case invokestatic j => cases hi
  case invokevirtual j => cases hi
  case invokespecial j => cases hi
  case ireturn => cases hi
  case lreturn => cases hi
  case areturn => cases hi
  case return_ => cases hi
  case iconst v => cases h
  case bipush v => cases h
  case sipush v => cases h
  case lconst v => cases h
  case goto v => cases h
  case ldc j =>
    unfold rs_exec at h
    dsimp only at h
    split at h <;> cases h
  case ldc_w j =>
    unfold rs_exec at h
    dsimp only at h
    split at h <;> cases h
  case ldc2_w j =>
    unfold rs_exec at h
    dsimp only at h
    split at h <;> cases h
  case ifCond k o =>
    unfold rs_exec at h
    dsimp only at h
    split at h <;> cases h
  case if_icmp k o =>
    unfold rs_exec at h
    dsimp only at h
    split at h <;> cases h
  case ifnull o =>
    unfold rs_exec at h
    dsimp only at h
    split at h <;> cases h
  case ifnonnull o =>
    unfold rs_exec at h
    dsimp only at h
    split at h <;> cases h
  case tableswitch d lo hi offs =>
    unfold rs_exec at h
    dsimp only at h
    split at h <;> cases h
  case iload j => exact rs_map_no (o := rs_load (.iload j) L) (f := fun v => (nx, L, v :: st, w)) h
  case iload_n j => exact rs_map_no (o := rs_load (.iload_n j) L) (f := fun v => (nx, L, v :: st, w)) h
  case lload j => exact rs_map_no (o := rs_load (.lload j) L) (f := fun v => (nx, L, v :: st, w)) h
  case lload_n j => exact rs_map_no (o := rs_load (.lload_n j) L) (f := fun v => (nx, L, v :: st, w)) h
  case aload j => exact rs_map_no (o := rs_load (.aload j) L) (f := fun v => (nx, L, v :: st, w)) h
  case aload_n j => exact rs_map_no (o := rs_load (.aload_n j) L) (f := fun v => (nx, L, v :: st, w)) h
  case istore j => cases st with
    | nil => cases h
    | cons v r => exact rs_map_no (o := rs_store (.istore j) L v) (f := fun l' => (nx, l', r, w)) h
  case istore_n j => cases st with
    | nil => cases h
    | cons v r => exact rs_map_no (o := rs_store (.istore_n j) L v) (f := fun l' => (nx, l', r, w)) h
  case lstore j => cases st with
    | nil => cases h
    | cons v r => exact rs_map_no (o := rs_store (.lstore j) L v) (f := fun l' => (nx, l', r, w)) h
  case lstore_n j => cases st with
    | nil => cases h
    | cons v r => exact rs_map_no (o := rs_store (.lstore_n j) L v) (f := fun l' => (nx, l', r, w)) h
  case astore j => cases st with
    | nil => cases h
    | cons v r => exact rs_map_no (o := rs_store (.astore j) L v) (f := fun l' => (nx, l', r, w)) h
  case astore_n j => cases st with
    | nil => cases h
    | cons v r => exact rs_map_no (o := rs_store (.astore_n j) L v) (f := fun l' => (nx, l', r, w)) h
  case iinc j v =>
    unfold rs_exec at h
    dsimp only at h
    split at h
    · exact rs_map_no (f := fun l' => (nx, l', st, w)) h
    · cases h
  case getfield j => exact rs_map_no (o := rs_get (rs_fl y.cls j) st w) (f := fun s => (nx, L, s, w)) h
  case iaload => exact rs_map_no (o := rs_ald 12 st w) (f := fun s => (nx, L, s, w)) h
  case laload => exact rs_map_no (o := rs_ald 13 st w) (f := fun s => (nx, L, s, w)) h
  case baload => exact rs_map_no (o := rs_ald 14 st w) (f := fun s => (nx, L, s, w)) h
  case aaload => exact rs_map_no (o := rs_ald 99 st w) (f := fun s => (nx, L, s, w)) h
  case arraylength => exact rs_map_no (o := rs_alen st w) (f := fun s => (nx, L, s, w)) h
  case putfield j => exact rs_map_no (o := rs_put (rs_pfl y j) st w) (f := fun s => (nx, L, s.1, s.2)) h
  case iastore => exact rs_map_no (o := rs_ast 12 st w) (f := fun s => (nx, L, s.1, s.2)) h
  case lastore => exact rs_map_no (o := rs_ast 13 st w) (f := fun s => (nx, L, s.1, s.2)) h
  case bastore => exact rs_map_no (o := rs_ast 14 st w) (f := fun s => (nx, L, s.1, s.2)) h
  case aastore => exact rs_map_no (o := rs_ast 99 st w) (f := fun s => (nx, L, s.1, s.2)) h
  case new j => exact rs_map_no (o := rs_newo (rs_nw y.cls j) st w) (f := fun s => (nx, L, s.1, s.2)) h
  case newarray j => exact rs_map_no (o := rs_newa (rs_nk j) st w) (f := fun s => (nx, L, s.1, s.2)) h
  case anewarray j => exact rs_map_no (o := rs_newa (rs_na y.cls j) st w) (f := fun s => (nx, L, s.1, s.2)) h
  all_goals exact alu h rfl
theorem rs_ret_nc {y : MethodName} {i : Instr} {a : Nat × Nat × Nat × List (Int32 × Nat) × Value} {L : rs_L} {st : List Value} {w : rs_H} {z : MethodName × List Value × Nat × List Value} (hi : i = .ireturn ∨ i = .lreturn ∨ i = .areturn ∨ i = .return_) (h : rs_exec y (i, a) L st w = some (.inr (.inl z))) : False := by
  rcases hi with rfl | rfl | rfl | rfl
  · unfold rs_exec at h
    dsimp only at h
    split at h
    · split at h <;> cases h
    · cases h
  · unfold rs_exec at h
    dsimp only at h
    split at h <;> cases h
  · unfold rs_exec at h
    dsimp only at h
    split at h
    · split at h <;> cases h
    · cases h
  · unfold rs_exec at h
    dsimp only at h
    split at h <;> cases h
theorem rs_pop_s : ∀ (n : Nat) (acc st : List Value) (o : List Value × List Value), rs_pop n acc st = some o → ∃ xs, xs.length = n ∧ st = xs ++ o.2 ∧ o.1 = xs.reverse ++ acc
  | 0, acc, st, o, h => by cases h; exact ⟨[], rfl, rfl, rfl⟩
  | n + 1, acc, [], o, h => by cases h
  | n + 1, acc, v :: st, o, h => by
    obtain ⟨xs, h1, h2, h3⟩ := rs_pop_s n (v :: acc) st o h
    refine ⟨v :: xs, by simp [h1], by rw [h2]; rfl, by rw [h3]; simp⟩
theorem rs_call_s {lk : Option (MethodName × Nat × Nat)} {mode nx : Nat} {st : List Value} {w : rs_H} {z : MethodName × List Value × Nat × List Value} (h : rs_call lk mode nx st w = some (.inr (.inl z))) : ∃ f, lk = some f ∧ z.1 = f.1 ∧ z.2.2.1 = nx ∧ rs_s4 z.2.2.2 = true ∧
    ((mode = 0 ∧ st = z.2.1.reverse ++ z.2.2.2 ∧ z.2.1.length = f.2.1) ∨ (¬ mode = 0 ∧ ∃ q as, z.2.1 = .ref q :: as ∧ as.length = f.2.1 ∧ st = as.reverse ++ .ref q :: z.2.2.2 ∧ (mode = 1 → ∃ c, w.1 q = some c ∧ c.1 = f.2.2))) := by
  unfold rs_call at h
  split at h
  · cases h
  · rename_i f
    split at h
    · cases h
    · rename_i ar har
      obtain ⟨xs, h1, h2, h3⟩ := rs_pop_s _ _ _ _ har
      rw [List.append_nil] at h3
      have h4 : xs = ar.1.reverse := by rw [h3, List.reverse_reverse]
      have h5 : ar.1.length = f.2.1 := by rw [h3, List.length_reverse]; exact h1
      refine ⟨f, rfl, ?_⟩
      split at h
      · split at h
        · rename_i h6
          cases h
          exact ⟨rfl, rfl, h6, Or.inl ⟨rfl, by rw [h2, h4], h5⟩⟩
        · cases h
      · split at h
        · rename_i q rest hq
          split at h
          · rename_i c hc
            split at h
            · rename_i h6
              cases h
              rw [Bool.and_eq_true] at h6
              exact ⟨rfl, rfl, h6.2, Or.inr ⟨by omega, q, ar.1, rfl, h5, by rw [h2, h4, hq], fun _ => ⟨c, hc, of_decide_eq_true h6.1⟩⟩⟩
            · cases h
          · cases h
        · cases h
      · rename_i hm0 hm1
        split at h
        · rename_i q rest hq
          split at h
          · rename_i h6
            cases h
            exact ⟨rfl, rfl, h6, Or.inr ⟨hm0, q, ar.1, rfl, h5, by rw [h2, h4, hq], fun e => absurd e hm1⟩⟩
          · cases h
        · cases h
/-- the callee's contract: from the world w to the world w', with the answer v -/
def rs_met (l : Launch) (D : va_G) (b base d : Nat) (y : MethodName) (q : ByteArray × Nat × Option FieldType) (as : List Value) (w w' : rs_H) (v : Option Value) : Prop :=
  Met l y (Jvm.Cond.code y q.1 q.2.1 q.2.2 :: rs_tb) { frames := d + 1, cells := w'.2.1 - w.2.1, slots := w'.2.2 - w.2.2, locals := 64 * (d + 1) }
    (va_Pc (as.map (rs_v b base)) (fun U => rs_G D U b base w U.heap ∧ va_K D rs_cl [] U ∧ rs_Nw U))
    (fun _ st oc t => oc = .returned (v.map (rs_v b base)) ∧ rs_G D t b base w' t.heap ∧ va_F (fun q => base ≤ q) st t)
    (w'.2.1 - w.2.1) (w'.2.2 - w.2.2) (fun q => base ≤ q)
theorem rs_pre_blind (D : va_G) (b base : Nat) (w : rs_H) (as : List Value) : FrameBlind (va_Pc (as.map (rs_v b base)) (fun U => rs_G D U b base w U.heap ∧ va_K D rs_cl [] U ∧ rs_Nw U)) := by
  intro a U g mk h
  obtain ⟨h1, h2, h3, h4⟩ := h
  exact ⟨h1, h2.moved (U := U.calling g mk a) (Vm.Alike.refl U.vm), va_K.moved (u := U) (U := U.calling g mk a) (Vm.Alike.refl U.vm) h3, rs_Nw.same (U := U.calling g mk a) rfl h4⟩
section RSC
variable {p : Program} {l : Launch} {e : Env} {R : Room} {s : State} {m : MethodId} {args : Array Value} {below : List Frame} {meth : Method} {c : Code} {H : Heap} {locs : List Loc} {cells slots : Nat} {Q : State → Prop} {cc : ByteArray} {pc : Nat} {ls : Array Slot} {b base : Nat} {st : List Value} {D : va_G} {y : MethodName} {w w' : rs_H} {L : rs_L}
theorem rs_back {mc ms : Nat} {st0 rest : List Value} {v : Option Value} (hr : va_Run p l e R s m args below meth c H locs cells slots mc ms (F0 m pc ls st0) (rest.map (rs_v b base)) (fun st0 oc t => oc = .returned (v.map (rs_v b base)) ∧ rs_G D t b base w' t.heap ∧ va_F (fun q => base ≤ q) st0 t) (fun q => base ≤ q)) (hS : va_S (fun q => base ≤ q) s.heap H locs)
    (kk : ∀ H1 locs1, rs_G D s b base w' H1 → va_S (fun q => base ≤ q) s.heap H1 locs1 → W p l e R s m args below meth c H1 locs1 (cells + mc) (slots + ms) Q (F0 m (pc + 3) ls ((rs_push v rest).map (rs_v b base)))) : W p l e R s m args below meth c H locs cells slots Q (F0 m pc ls st0) := by
  intro T hT X
  obtain ⟨v', st₀, t, T', L, h0, X', hL, e1, e2, ⟨hv, hg, hz, hk⟩, st⟩ := hr T hT X
  cases hv
  rw [h0] at hz hk
  have hal : t.vm.Alike s.vm := by rw [← e2]; exact X'.warmed.alike.symm
  obtain ⟨t2, a1, b1⟩ := kk T'.heap (locs ++ L) (by rw [e1]; exact hg.moved hal)
    ⟨Nat.le_trans hS.1 (by rw [e1]; exact hz), fun q h1 h2 => by rw [e1, hk q (Nat.lt_of_lt_of_le h1 hS.1) h2]; exact hS.2.1 q h1 h2, fun q hq => by
      rcases List.mem_append.mp hq with h | h
      · exact hS.2.2 q h
      · exact hL q h⟩ T' rfl X'
  refine ⟨t2, st t2 ?_, b1⟩
  cases v <;> exact a1
theorem rs_lk_s {mode : Nat} {own : String} {i : Nat} {f : MethodName × Nat × Nat} (h : rs_lk mode own i = some f) : ∃ o cd, rs_ml own i = some (f.1, o) ∧ rs_codeT f.1 = some cd ∧ (parseMethodDescriptor f.1.desc).map (fun d => d.parameters.length) = some f.2.1 ∧ Cond.initialized f.1.cls ∈ lw_tbl ∧ plainName f.1.cls = true ∧ (f.1.cls ≠ "java/lang/invoke/MethodHandle" ∧ f.1.cls ≠ "java/lang/invoke/VarHandle") ∧ cd.2.1 ≤ 40 ∧ ¬ f.1 = x ∧
    (mode = 0 → Cond.static f.1 ∈ lw_tbl) ∧ (mode = 1 → Cond.instanceMethod f.1 ∈ lw_tbl ∧ Cond.selects f.1.cls f.1 f.1 ∈ lw_tbl ∧ rs_kindOf f.1.cls < 12 ∧ f.2.2 = rs_kindOf f.1.cls) ∧ (mode = 2 → Cond.instanceMethod f.1 ∈ lw_tbl ∧ f.1.name = "<init>" ∧ cd.2.2 = none) := by
  unfold rs_lk at h
  split at h
  · cases h
  · rename_i q hq
    split at h
    · rename_i n cd hn hcd
      split at h
      · rename_i hok
        cases h
        simp only [Bool.and_eq_true, decide_eq_true_eq] at hok
        obtain ⟨h1, h2, h3, h4, h5, h6⟩ := hok
        refine ⟨q.2, cd, hq, hcd, hn, rs_has_s h1, h2, h3, h4, h5, ?_, ?_, ?_⟩
        · rintro rfl
          exact rs_has_s h6
        · rintro rfl
          simp only [rs_mk, Bool.and_eq_true, decide_eq_true_eq] at h6
          exact ⟨rs_has_s h6.1, rs_has_s h6.2.1, h6.2.2, rfl⟩
        · rintro rfl
          simp only [rs_mk, Bool.and_eq_true, decide_eq_true_eq] at h6
          exact ⟨rs_has_s h6.1, h6.2.1, h6.2.2⟩
      · cases h
    · cases h
theorem rs_kindOf_cl {C : String} (h : rs_kindOf C < 12) : ∃ r, rs_cl[rs_kindOf C]? = some r ∧ r.1 = C := by
  have h1 : (List.range 12).findIdx (fun k => match rs_cl[k]? with | some r => r.1 == C | none => false) < (List.range 12).length := by
    rw [List.length_range]; exact h
  have h2 := List.findIdx_getElem (w := h1)
  rw [List.getElem_range] at h2
  have h3 : (match rs_cl[rs_kindOf C]? with | some r => r.1 == C | none => false) = true := h2
  split at h3
  · rename_i r hr
    exact ⟨r, hr, eq_of_beq h3⟩
  · cases h3
set_option maxHeartbeats 4000000 in
/-- a call of the run is a call of the machine -/
theorem rs_call_W (hM : rs_M D p s m args meth c y) (hG : rs_G D s b base w H) (hS : va_S (fun q => base ≤ q) s.heap H locs) (hl : ls.size = c.maxLocals) {d : Nat} (hRf : d + 2 ≤ R.frames ∧ 64 * (d + 2) ≤ R.locals)
    {z : MethodName × List Value × Nat × List Value} (hz : rs_step y pc L st w = some (.inr (.inl z))) {v : Option Value} (hR : cells + (w'.2.1 - w.2.1) ≤ R.cells ∧ slots + (w'.2.2 - w.2.2) ≤ R.slots)
    (hmet : ∀ q, rs_codeT z.1 = some q → plainName z.1.cls = true → ¬ z.1 = x → rs_met l D b base d z.1 q z.2.1 w w' v)
    (kk : ∀ H1 locs1, rs_G D s b base w' H1 → va_S (fun q => base ≤ q) s.heap H1 locs1 → W p l e R s m args below meth c H1 locs1 (cells + (w'.2.1 - w.2.1)) (slots + (w'.2.2 - w.2.2)) Q (F0 m z.2.2.1 ls ((rs_push v z.2.2.2).map (rs_v b base)))) :
    W p l e R s m args below meth c H locs cells slots Q (F0 m pc ls (st.map (rs_v b base))) := by
  obtain ⟨hx, ⟨q0, hcode, hb, hml⟩, hown, hts, hnw, hnm, hK⟩ := hM
  unfold rs_step at hz
  split at hz
  · cases hz
  · rename_i q hq
    obtain ⟨q0', hcode', i, n, hd, hok, rfl⟩ := rs_dec_s hq
    cases hcode.symm.trans hcode'
    have go : ∀ mode j, (mode = 0 ∧ i = .invokestatic j ∨ mode = 1 ∧ i = .invokevirtual j ∨ mode = 2 ∧ i = .invokespecial j) → decode q0.1 pc = .ok (i, 3) → rs_call (rs_lk mode y.cls j) mode (pc + 3) st w = some (.inr (.inl z)) → W p l e R s m args below meth c H locs cells slots Q (F0 m pc ls (st.map (rs_v b base))) := by
      intro mode j hmode hd3 hcall
      obtain ⟨f, hlk, hz1, hz2, hz3, hz4⟩ := rs_call_s hcall
      obtain ⟨o, cd, a1, a2, a3, a4, a5, a6, a7, a8, a9, a10, a11⟩ := rs_lk_s hlk
      have hct := rs_codeT_s a2
      have hMet := hmet cd (by rw [hz1]; exact a2) (by rw [hz1]; exact a5) (by rw [hz1]; exact a8)
      rw [hz1] at hMet
      unfold rs_met at hMet
      have hgood := rs_goodC hct
      have hini := hts _ (rs_tb_in a4 rfl)
      have hroom : (d + 1) + 1 ≤ R.frames ∧ 8 + (cd.2.1 + 11) + 64 * (d + 1) ≤ R.locals := by omega
      have hblind := rs_pre_blind D b base w z.2.1
      have hpre : ∀ U : State, U.heap = H → s.WarmedH U.vm → va_Pc (z.2.1.map (rs_v b base)) (fun U => rs_G D U b base w U.heap ∧ va_K D rs_cl [] U ∧ rs_Nw U) (z.2.1.map (rs_v b base)).toArray U := fun U hU hW => ⟨rfl, by rw [hU]; exact hG.moved hW.alike, va_K.moved hW.alike hK, hnw.warm hW⟩
      have hrest := lv_room (m := m) (pc := pc) (ls := ls) (rest := st.map (rs_v b base)) (rs_s4_8 (b := b) (base := base) hz3)
      rw [hz2] at kk
      have hmlS := rs_ml_s a1
      have hdd : f.1.cls ≠ "java/lang/invoke/MethodHandle" ∧ f.1.cls ≠ "java/lang/invoke/VarHandle" ∧ (parseMethodDescriptor f.1.desc).map (fun d => d.parameters.length) = some f.2.1 := ⟨a6.1, a6.2, a3⟩
      rcases hz4 with ⟨m0, hst, hlen⟩ | ⟨m0, r, as, has, hlen, hst, hrec⟩
      · rcases hmode with ⟨-, rfl⟩ | ⟨e1, -⟩ | ⟨e1, -⟩
        · have hstk : st.map (rs_v b base) = (z.2.1.map (rs_v b base)).reverse ++ z.2.2.2.map (rs_v b base) := by
            rw [hst, List.map_append, List.map_reverse]
          cases o with
          | none =>
            exact rs_back (va_runS ⟨hx, hb, hml, hown, hts⟩ hMet ⟨callB_of f.2.1 hts hgood rfl rfl rfl hini (hts _ (rs_tb_in hmlS rfl)) hdd hroom, hts _ (rs_tb_in (a9 m0) rfl)⟩ ⟨hblind, hpre⟩ rfl (by rw [List.length_map]; exact hlen) (hl.trans hml) hstk hrest hd3 hR) hS kk
          | some host =>
            exact rs_back (va_runSN (host := host) ⟨hx, hb, hml, hown, hts⟩ hMet ⟨va_cnB f.2.1 hts hgood rfl rfl rfl (hnw.1 _ _ _ _ hmlS) hini hdd hroom, hts _ (rs_tb_in (a9 m0) rfl), trivial⟩ ⟨hblind, hpre⟩ rfl (by rw [List.length_map]; exact hlen) (hl.trans hml) hstk hrest hd3 hR) hS kk
        · omega
        · omega
      · have hstk : st.map (rs_v b base) = (as.map (rs_v b base)).reverse ++ .ref (rs_p b base r) :: z.2.2.2.map (rs_v b base) := by
          rw [hst, List.map_append, List.map_reverse]; rfl
        have hargs : z.2.1.map (rs_v b base) = .ref (rs_p b base r) :: as.map (rs_v b base) := by rw [has]; rfl
        rw [hargs] at hpre hblind hMet
        rcases hmode with ⟨e1, -⟩ | ⟨m1, rfl⟩ | ⟨m2, rfl⟩
        · exact absurd e1 m0
        · obtain ⟨g1, g2, g3, g4⟩ := a10 m1
          obtain ⟨c1, hc1, hk1⟩ := hrec m1
          obtain ⟨r', hr1, hr2⟩ := rs_kindOf_cl g3
          have hk2 : c1.1 = rs_kindOf f.1.cls := hk1.trans g4
          obtain ⟨-, cell, q1, q2, q3, -⟩ := rs_at_obj (by rw [hk2]; exact hr1) (hG.2.2 r c1 hc1).2
          have hcls := (hK.1 _ r' hr1).2.1
          rw [hr2] at hcls
          rw [hk2] at q2
          have hrecv : ∃ cellB : Cell, H[rs_p b base r]? = some cellB ∧ cellB.vm.isStatics = false ∧ s.vm.findClass f.1.cls = some cellB.cls := ⟨cell, q1, by rw [q3]; rfl, by rw [q2]; exact hcls⟩
          cases o with
          | none =>
            exact rs_back (va_runV ⟨hx, hb, hml, hown, hts⟩ hMet ⟨callB_of f.2.1 hts hgood rfl rfl rfl hini (hts _ (rs_tb_in hmlS rfl)) hdd hroom, hts _ (rs_tb_in g1 rfl), hts _ (rs_tb_in g2 rfl)⟩ ⟨hblind, hrecv, hpre⟩ rfl (by rw [List.length_map]; exact hlen) (hl.trans hml) hstk hrest hd3 hR) hS kk
          | some host =>
            exact rs_back (va_runVN (host := host) ⟨hx, hb, hml, hown, hts⟩ hMet ⟨va_cnB f.2.1 hts hgood rfl rfl rfl (hnw.1 _ _ _ _ hmlS) hini hdd hroom, hts _ (rs_tb_in g1 rfl), hts _ (rs_tb_in g2 rfl)⟩ ⟨hblind, hrecv, hpre⟩ rfl (by rw [List.length_map]; exact hlen) (hl.trans hml) hstk hrest hd3 hR) hS kk
        · obtain ⟨g1, g2, g3⟩ := a11 m2
          obtain ⟨bb, nn, rr⟩ := cd
          dsimp only at g3
          subst g3
          cases o with
          | none =>
            exact rs_back (va_runI ⟨hx, hb, hml, hown, hts⟩ hMet ⟨callB_of f.2.1 hts hgood rfl rfl rfl hini (hts _ (rs_tb_in hmlS rfl)) hdd hroom, g2, hts _ (rs_tb_in g1 rfl)⟩ ⟨hblind, hpre⟩ rfl (by rw [List.length_map]; exact hlen) (hl.trans hml) hstk hrest hd3 hR) hS kk
          | some host =>
            exact rs_back (va_runIN (host := host) ⟨hx, hb, hml, hown, hts⟩ hMet ⟨va_cnB f.2.1 hts hgood rfl rfl rfl (hnw.1 _ _ _ _ hmlS) hini hdd hroom, g2, hts _ (rs_tb_in g1 rfl)⟩ ⟨hblind, hpre⟩ rfl (by rw [List.length_map]; exact hlen) (hl.trans hml) hstk hrest hd3 hR) hS kk
    cases i
    case invokestatic j =>
      obtain rfl := rs_okI_len (by intros; contradiction) hok
      unfold rs_exec at hz
      dsimp only at hz
      split at hz
      · rename_i f hf
        exact go 0 j (Or.inl ⟨rfl, rfl⟩) hd (by rw [hf]; exact hz)
      · exact (rs_map_no hz).elim
    case invokevirtual j =>
      obtain rfl := rs_okI_len (by intros; contradiction) hok
      exact go 1 j (Or.inr (Or.inl ⟨rfl, rfl⟩)) hd hz
    case invokespecial j =>
      obtain rfl := rs_okI_len (by intros; contradiction) hok
      unfold rs_exec at hz
      dsimp only at hz
      cases ho : rs_oi y.cls j with
      | false => rw [ho, cond_false] at hz; exact go 2 j (Or.inr (Or.inr ⟨rfl, rfl⟩)) hd hz
      | true =>
        rw [ho, cond_true] at hz
        split at hz
        · split at hz <;> cases hz
        · cases hz
    case ireturn => exact (rs_ret_nc (by simp) hz).elim
    case lreturn => exact (rs_ret_nc (by simp) hz).elim
    case areturn => exact (rs_ret_nc (by simp) hz).elim
    case return_ => exact (rs_ret_nc (by simp) hz).elim
    all_goals exact (rs_exec_no rfl hz).elim
end RSC
