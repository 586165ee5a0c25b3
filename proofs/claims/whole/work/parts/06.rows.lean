/-! the groups of instructions, each over the machine -/
def rs_M (D : va_G) (p : Program) (s : State) (m : MethodId) (args : Array Value) (meth : Method) (c : Code) (y : MethodName) : Prop :=
  p.tables.exec = Jvm.exec ∧ (∃ q, rs_code y = some q ∧ c.code = q.1 ∧ c.maxLocals = q.2.1) ∧ s.vm.findClass y.cls = some m.cls ∧ (∀ w ∈ rs_tb, w.before args s = true) ∧ rs_Nw s ∧ (y.name = "<init>" → meth.name = y.name) ∧ va_K D rs_cl [] s
theorem rs_dec_s {y : MethodName} {pc : Nat} {q : rs_I} (h : rs_dec y pc = some q) : ∃ q0, rs_code y = some q0 ∧ ∃ i n, decode q0.1 pc = .ok (i, n) ∧ rs_okI pc n i = true ∧ q = (i, n, pc + n, ((pc : Int) + rs_off i).toNat, rs_cs pc i, rs_cv y.cls i) := by
  unfold rs_dec at h
  split at h
  · cases h
  · rename_i q0 hq
    refine ⟨q0, hq, ?_⟩
    split at h
    · cases h
    · rename_i r hr
      split at h
      · rename_i hok
        cases h
        exact ⟨r.1, r.2, hr, hok, rfl⟩
      · cases h
theorem rs_okI_len {pc n : Nat} {i : Instr} (hi : ∀ d lo hi o, i = .tableswitch d lo hi o → False) (h : rs_okI pc n i = true) : n = rs_len i := by
  unfold rs_okI at h
  rw [Bool.and_eq_true] at h
  have h2 := h.2
  split at h2
  · exact (hi _ _ _ _ rfl).elim
  · exact of_decide_eq_true h2
theorem rs_okI_t {pc n : Nat} {i : Instr} (h : rs_okI pc n i = true) : (pc : Int) + rs_off i = ((((pc : Int) + rs_off i).toNat : Nat) : Int) := by
  unfold rs_okI at h
  rw [Bool.and_eq_true] at h
  exact (Int.toNat_of_nonneg (of_decide_eq_true h.1)).symm
theorem rs_no {α : Type} {a : α} {C : Prop} (h : (none : Option α) = some a) : C := by cases h
section RSW
variable {p : Program} {l : Launch} {e : Env} {R : Room} {s : State} {m : MethodId} {args : Array Value} {below : List Frame} {meth : Method} {c : Code} {H : Heap} {locs : List Loc} {cells slots : Nat} {Q : State → Prop} {cc : ByteArray} {pc : Nat} {ls : Array Slot} {b base : Nat} {st : List Value} {D : va_G} {y : MethodName} {w : rs_H} {L : rs_L}
theorem rs_ii_s {f : Int32 → Int32 → Option Value} {st' : List Value} (h : rs_ii f st = some st') : ∃ x z v r, st = .int z :: .int x :: r ∧ f x z = some v ∧ st' = v :: r := by
  unfold rs_ii at h
  split at h
  · rename_i z x r
    cases hf : f x z with
    | none => rw [hf] at h; cases h
    | some v => rw [hf] at h; cases h; exact ⟨x, z, v, r, rfl, hf, rfl⟩
  · cases h
theorem rs_ll_s {f : Int64 → Int64 → Option Value} {st' : List Value} (h : rs_ll f st = some st') : ∃ x z v r, st = .long z :: .long x :: r ∧ f x z = some v ∧ st' = v :: r := by
  unfold rs_ll at h
  split at h
  · rename_i z x r
    cases hf : f x z with
    | none => rw [hf] at h; cases h
    | some v => rw [hf] at h; cases h; exact ⟨x, z, v, r, rfl, hf, rfl⟩
  · cases h
theorem rs_li_s {f : Int64 → Int32 → Value} {st' : List Value} (h : rs_li f st = some st') : ∃ x z r, st = .int z :: .long x :: r ∧ st' = f x z :: r := by
  unfold rs_li at h
  split at h
  · cases h; exact ⟨_, _, _, rfl, rfl⟩
  · cases h
theorem rs_i1_s {f : Int32 → Value} {st' : List Value} (h : rs_i1 f st = some st') : ∃ x r, st = .int x :: r ∧ st' = f x :: r := by
  unfold rs_i1 at h
  split at h
  · cases h; exact ⟨_, _, rfl, rfl⟩
  · cases h
theorem rs_l1_s {f : Int64 → Value} {st' : List Value} (h : rs_l1 f st = some st') : ∃ x r, st = .long x :: r ∧ st' = f x :: r := by
  unfold rs_l1 at h
  split at h
  · cases h; exact ⟨_, _, rfl, rfl⟩
  · cases h
theorem rs_c2_1 {v : Value} (h : ¬ rs_c2 v = true) : (rs_v b base v).category = 1 := by
  rw [rs_cat]
  rcases lv_cat v with q | q
  · exact q
  · exact absurd ((rs_c2_cat v).mpr q) h
theorem rs_c2_2 {v : Value} (h : rs_c2 v = true) : (rs_v b base v).category = 2 := by
  rw [rs_cat]
  exact (rs_c2_cat v).mp h
set_option maxHeartbeats 4000000 in
theorem rs_alu_W (hx : p.tables.exec = Jvm.exec) (hb : c.code = cc) {i : Instr} {st' : List Value} (h : rs_alu i st = some st') (hd : decode cc pc = .ok (i, 1)) (k : W p l e R s m args below meth c H locs cells slots Q (F0 m (pc + 1) ls (st'.map (rs_v b base)))) : W p l e R s m args below meth c H locs cells slots Q (F0 m pc ls (st.map (rs_v b base))) := by
  cases i
  case iadd => obtain ⟨x, z, v, r, rfl, hf, rfl⟩ := rs_ii_s h; cases hf; exact lv_iadd hx hb hd k
  case isub => obtain ⟨x, z, v, r, rfl, hf, rfl⟩ := rs_ii_s h; cases hf; exact lv_isub hx hb hd k
  case imul => obtain ⟨x, z, v, r, rfl, hf, rfl⟩ := rs_ii_s h; cases hf; exact lv_imul hx hb hd k
  case iand => obtain ⟨x, z, v, r, rfl, hf, rfl⟩ := rs_ii_s h; cases hf; exact lv_iand hx hb hd k
  case ior => obtain ⟨x, z, v, r, rfl, hf, rfl⟩ := rs_ii_s h; cases hf; exact lv_ior hx hb hd k
  case ixor => obtain ⟨x, z, v, r, rfl, hf, rfl⟩ := rs_ii_s h; cases hf; exact lv_ixor hx hb hd k
  case ishl => obtain ⟨x, z, v, r, rfl, hf, rfl⟩ := rs_ii_s h; cases hf; exact lv_ishl hx hb hd k
  case ishr => obtain ⟨x, z, v, r, rfl, hf, rfl⟩ := rs_ii_s h; cases hf; exact lv_ishr hx hb hd k
  case iushr => obtain ⟨x, z, v, r, rfl, hf, rfl⟩ := rs_ii_s h; cases hf; exact lv_iushr hx hb hd rfl k
  case idiv =>
    obtain ⟨x, z, v, r, rfl, hf, rfl⟩ := rs_ii_s h
    by_cases hz : z = 0
    · rw [if_pos hz] at hf; cases hf
    · rw [if_neg hz] at hf; cases hf; exact lv_idiv hx hb hd hz k
  case irem =>
    obtain ⟨x, z, v, r, rfl, hf, rfl⟩ := rs_ii_s h
    by_cases hz : z = 0
    · rw [if_pos hz] at hf; cases hf
    · rw [if_neg hz] at hf; cases hf; exact lv_irem hx hb hd hz k
  case ladd => obtain ⟨x, z, v, r, rfl, hf, rfl⟩ := rs_ll_s h; cases hf; exact lv_ladd hx hb hd k
  case lsub => obtain ⟨x, z, v, r, rfl, hf, rfl⟩ := rs_ll_s h; cases hf; exact lv_lsub hx hb hd k
  case lmul => obtain ⟨x, z, v, r, rfl, hf, rfl⟩ := rs_ll_s h; cases hf; exact lv_lmul hx hb hd k
  case land => obtain ⟨x, z, v, r, rfl, hf, rfl⟩ := rs_ll_s h; cases hf; exact lv_land hx hb hd k
  case ldiv =>
    obtain ⟨x, z, v, r, rfl, hf, rfl⟩ := rs_ll_s h
    by_cases hz : z = 0
    · rw [if_pos hz] at hf; cases hf
    · rw [if_neg hz] at hf; cases hf; exact lv_ldiv hx hb hd hz k
  case lrem =>
    obtain ⟨x, z, v, r, rfl, hf, rfl⟩ := rs_ll_s h
    by_cases hz : z = 0
    · rw [if_pos hz] at hf; cases hf
    · rw [if_neg hz] at hf; cases hf; exact lv_lrem hx hb hd hz k
  case lcmp => obtain ⟨x, z, v, r, rfl, hf, rfl⟩ := rs_ll_s h; cases hf; exact W.lcmp hx hb hd k
  case lshl => obtain ⟨x, z, r, rfl, rfl⟩ := rs_li_s h; exact lv_lshl hx hb hd rfl k
  case lshr => obtain ⟨x, z, r, rfl, rfl⟩ := rs_li_s h; exact lv_lshr hx hb hd rfl k
  case i2l => obtain ⟨x, r, rfl, rfl⟩ := rs_i1_s h; exact lv_i2l hx hb hd rfl k
  case l2i => obtain ⟨x, r, rfl, rfl⟩ := rs_l1_s h; exact lv_l2i hx hb hd rfl k
  case aconst_null => cases h; exact lv_null hx hb hd k
  case dup =>
    rw [show rs_alu .dup st = rs_dup st from rfl] at h
    cases st with
    | nil => cases h
    | cons v r =>
      rw [rs_dup] at h
      by_cases hc : rs_c2 v = true
      · rw [if_pos hc] at h; cases h
      · rw [if_neg hc] at h; cases h; exact lv_dup hx hb hd (rs_c2_1 hc) k
  case dup2 =>
    rw [show rs_alu .dup2 st = rs_dup2 st from rfl] at h
    cases st with
    | nil => cases h
    | cons v r =>
      unfold rs_dup2 at h
      dsimp only at h
      by_cases hc : rs_c2 v = true
      · rw [if_pos hc] at h; cases h; exact lv_dup2_2 hx hb hd (rs_c2_2 hc) k
      · rw [if_neg hc] at h
        cases r with
        | nil => cases h
        | cons u r =>
          dsimp only at h
          by_cases hu : rs_c2 u = true
          · rw [if_pos hu] at h; cases h
          · rw [if_neg hu] at h; cases h; exact lv_dup2_11 hx hb hd (rs_c2_1 hc) (rs_c2_1 hu) k
  all_goals exact rs_no (a := st') h
theorem rs_isr_s {v : Value} (h : rs_isr v = true) : v = .null ∨ ∃ a, v = .ref a := by
  cases v <;> first | exact Or.inl rfl | exact Or.inr ⟨_, rfl⟩ | cases h
set_option maxHeartbeats 4000000 in
theorem rs_load_W (hx : p.tables.exec = Jvm.exec) (hb : c.code = cc) {i : Instr} {nL : Nat} {v : Value} (hl : lv_has ls nL (rs_la b base 0 L)) (h : rs_load i L = some v) (hd : decode cc pc = .ok (i, rs_len i)) (k : W p l e R s m args below meth c H locs cells slots Q (F0 m (pc + rs_len i) ls ((v :: st).map (rs_v b base)))) : W p l e R s m args below meth c H locs cells slots Q (F0 m pc ls (st.map (rs_v b base))) := by
  cases i
  case iload j =>
    unfold rs_load at h
    dsimp only at h
    split at h
    · rename_i z hz; cases h; exact lv_iload hx hb hd (rs_has_ld hl hz) k
    · cases h
  case iload_n j =>
    unfold rs_load at h
    dsimp only at h
    split at h
    · rename_i z hz; cases h; exact lv_iload_n hx hb hd rfl (rs_has_ld hl hz) k
    · cases h
  case lload j =>
    unfold rs_load at h
    dsimp only at h
    split at h
    · rename_i z hz; cases h; exact lv_lload hx hb hd (rs_has_ld hl hz) k
    · cases h
  case lload_n j =>
    unfold rs_load at h
    dsimp only at h
    split at h
    · rename_i z hz; cases h; exact lv_lload_n hx hb hd rfl (rs_has_ld hl hz) k
    · cases h
  case aload j =>
    unfold rs_load at h
    dsimp only at h
    split at h
    · rename_i z hz
      split at h
      · rename_i hr
        cases h
        rcases rs_isr_s hr with rfl | ⟨a, rfl⟩
        · exact lv_aloadN hx hb hd (rs_has_ld hl hz) k
        · exact lv_aload hx hb hd (rs_has_ld hl hz) k
      · cases h
    · cases h
  case aload_n j =>
    unfold rs_load at h
    dsimp only at h
    split at h
    · rename_i z hz
      split at h
      · rename_i hr
        cases h
        rcases rs_isr_s hr with rfl | ⟨a, rfl⟩
        · exact lv_aload_nN hx hb hd rfl (rs_has_ld hl hz) k
        · exact lv_aload_n hx hb hd rfl (rs_has_ld hl hz) k
      · cases h
    · cases h
  all_goals exact rs_no (a := v) h
set_option maxHeartbeats 4000000 in
theorem rs_store_W (hx : p.tables.exec = Jvm.exec) (hb : c.code = cc) {i : Instr} {nL : Nat} {v : Value} {L' : rs_L} (hL : L.length = nL) (hl : lv_has ls nL (rs_la b base 0 L)) (h : rs_store i L v = some L') (hd : decode cc pc = .ok (i, rs_len i)) (k : ∀ ls1, L'.length = nL → lv_has ls1 nL (rs_la b base 0 L') → W p l e R s m args below meth c H locs cells slots Q (F0 m (pc + rs_len i) ls1 (st.map (rs_v b base)))) : W p l e R s m args below meth c H locs cells slots Q (F0 m pc ls ((v :: st).map (rs_v b base))) := by
  cases i
  case istore j =>
    unfold rs_store at h
    dsimp only at h
    split at h
    · have h1 := rs_st1_s h
      exact lv_istore hx hb hd hl (by omega) rfl (fun ls1 hl1 => k ls1 (h1.2.1.trans hL) (rs_has_st1 h hl1))
    · cases h
  case istore_n j =>
    unfold rs_store at h
    dsimp only at h
    split at h
    · have h1 := rs_st1_s h
      exact lv_istore_n hx hb hd rfl hl (by omega) rfl (fun ls1 hl1 => k ls1 (h1.2.1.trans hL) (rs_has_st1 h hl1))
    · cases h
  case lstore j =>
    unfold rs_store at h
    dsimp only at h
    split at h
    · have h1 := rs_st2_s h
      exact lv_lstore hx hb hd hl (by omega) rfl (fun ls1 hl1 => k ls1 (h1.2.1.trans hL) (rs_has_st2 h hl1))
    · cases h
  case lstore_n j =>
    unfold rs_store at h
    dsimp only at h
    split at h
    · have h1 := rs_st2_s h
      exact lv_lstore_n hx hb hd rfl hl (by omega) rfl (fun ls1 hl1 => k ls1 (h1.2.1.trans hL) (rs_has_st2 h hl1))
    · cases h
  case astore j =>
    unfold rs_store at h
    dsimp only at h
    split at h
    · rename_i hr
      have h1 := rs_st1_s h
      rcases rs_isr_s hr with rfl | ⟨a, rfl⟩
      · exact lv_astoreN hx hb hd hl (by omega) rfl (fun ls1 hl1 => k ls1 (h1.2.1.trans hL) (rs_has_st1 h hl1))
      · exact lv_astore hx hb hd hl (by omega) rfl (fun ls1 hl1 => k ls1 (h1.2.1.trans hL) (rs_has_st1 h hl1))
    · cases h
  case astore_n j =>
    unfold rs_store at h
    dsimp only at h
    split at h
    · rename_i hr
      have h1 := rs_st1_s h
      rcases rs_isr_s hr with rfl | ⟨a, rfl⟩
      · exact lv_astore_nN hx hb hd rfl hl (by omega) rfl (fun ls1 hl1 => k ls1 (h1.2.1.trans hL) (rs_has_st1 h hl1))
      · exact lv_astore_n hx hb hd rfl hl (by omega) rfl (fun ls1 hl1 => k ls1 (h1.2.1.trans hL) (rs_has_st1 h hl1))
    · cases h
  all_goals exact rs_no (a := L') h
theorem rs_if_W (hx : p.tables.exec = Jvm.exec) (hb : c.code = cc) {k : ClassFile.Cond} {o : Int} {t : Nat} {a : Int32} (ht : (pc : Int) + o = (t : Int)) (hd : decode cc pc = .ok (.ifCond k o, 3)) (kk : W p l e R s m args below meth c H locs cells slots Q (F0 m (bif rs_cb k a 0 then t else pc + 3) ls (st.map (rs_v b base)))) : W p l e R s m args below meth c H locs cells slots Q (F0 m pc ls ((.int a :: st).map (rs_v b base))) := by
  cases k
  case eq => exact lv_if_eq hx hb hd ht (fun h => by simpa [rs_cb, h] using kk) (fun h => by simpa [rs_cb, h] using kk)
  case ne => exact lv_if_ne hx hb hd ht (fun h => by simpa [rs_cb, h] using kk) (fun h => by simpa [rs_cb, h] using kk)
  case lt => exact lv_if_lt hx hb hd ht (fun h => by simpa [rs_cb, h] using kk) (fun h => by simpa [rs_cb, h] using kk)
  case ge => exact lv_if_ge hx hb hd ht (fun h => by simpa [rs_cb, h] using kk) (fun h => by simpa [rs_cb, h] using kk)
  case gt => exact lv_if_gt hx hb hd ht (fun h => by simpa [rs_cb, h] using kk) (fun h => by simpa [rs_cb, h] using kk)
  case le => exact lv_if_le hx hb hd ht (fun h => by simpa [rs_cb, h] using kk) (fun h => by simpa [rs_cb, h] using kk)
theorem rs_ifi_W (hx : p.tables.exec = Jvm.exec) (hb : c.code = cc) {k : ClassFile.Cond} {o : Int} {t : Nat} {a z : Int32} (ht : (pc : Int) + o = (t : Int)) (hd : decode cc pc = .ok (.if_icmp k o, 3)) (kk : W p l e R s m args below meth c H locs cells slots Q (F0 m (bif rs_cb k a z then t else pc + 3) ls (st.map (rs_v b base)))) : W p l e R s m args below meth c H locs cells slots Q (F0 m pc ls ((.int z :: .int a :: st).map (rs_v b base))) := by
  cases k
  case eq => exact lv_icmp_eq hx hb hd ht (fun h => by simpa [rs_cb, h] using kk) (fun h => by simpa [rs_cb, h] using kk)
  case ne => exact lv_icmp_ne hx hb hd ht (fun h => by simpa [rs_cb, h] using kk) (fun h => by simpa [rs_cb, h] using kk)
  case lt => exact lv_icmp_lt hx hb hd ht (fun h => by simpa [rs_cb, h] using kk) (fun h => by simpa [rs_cb, h] using kk)
  case ge => exact lv_icmp_ge hx hb hd ht (fun h => by simpa [rs_cb, h] using kk) (fun h => by simpa [rs_cb, h] using kk)
  case gt => exact lv_icmp_gt hx hb hd ht (fun h => by simpa [rs_cb, h] using kk) (fun h => by simpa [rs_cb, h] using kk)
  case le => exact lv_icmp_le hx hb hd ht (fun h => by simpa [rs_cb, h] using kk) (fun h => by simpa [rs_cb, h] using kk)
end RSW
