/-! fields, arrays, new cells -/
theorem rs_at_obj {D : va_G} {s : State} {b base id : Nat} {c : rs_C} {H : Heap} {r : vw_C} (hr : rs_cl[c.1]? = some r) (h : rs_at D s b base id c H) : c.2.1 = r.2.2 ∧ t_OB (rs_p b base id) (D.1 c.1) r.2.2 (D.2 c.1) H (fun j => rs_v b base (c.2.2 j)) := by
  rcases h with ⟨r', h1, h2, h3⟩ | ⟨ty, h1, -⟩
  · cases hr.symm.trans h1
    exact ⟨h2, h3⟩
  · have := rs_clt hr
    exfalso
    generalize c.1 = k at h1 this
    rcases (show k = 0 ∨ k = 1 ∨ k = 2 ∨ k = 3 ∨ k = 4 ∨ k = 5 ∨ k = 6 ∨ k = 7 ∨ k = 8 ∨ k = 9 ∨ k = 10 ∨ k = 11 by omega) with rfl | rfl | rfl | rfl | rfl | rfl | rfl | rfl | rfl | rfl | rfl | rfl <;> cases h1
theorem rs_at_arr {D : va_G} {s : State} {b base id : Nat} {c : rs_C} {H : Heap} {ty : FieldType} (ht : rs_aty c.1 = some ty) (h : rs_at D s b base id c H) : ∃ cell : Cell, H[rs_p b base id]? = some cell ∧ s.isArrayOf cell ty ∧ cell.vm ≠ .unknown ∧ cell.slots.size = c.2.1 ∧ ∀ j : Nat, j < c.2.1 → cell.slots[j]? = some (rs_v b base (c.2.2 j)) := by
  rcases h with ⟨r, h1, h2, h3⟩ | ⟨ty', h1, h2⟩
  · exfalso
    have := rs_clt h1
    generalize c.1 = k at ht this
    rcases (show k = 0 ∨ k = 1 ∨ k = 2 ∨ k = 3 ∨ k = 4 ∨ k = 5 ∨ k = 6 ∨ k = 7 ∨ k = 8 ∨ k = 9 ∨ k = 10 ∨ k = 11 by omega) with rfl | rfl | rfl | rfl | rfl | rfl | rfl | rfl | rfl | rfl | rfl | rfl <;> cases ht
  · cases ht.symm.trans h1
    rcases h2 with ⟨cA, h2, h3, h4⟩ | ⟨rfl, rfl, scr, h2, h3, h4, h5, h6⟩
    · exact ⟨_, h4, h2 _ _, (fun q => by cases q), arrV_size _ _ _, fun j hj => arrV_read _ _ hj⟩
    · exact ⟨scr, h2, h3, h4, h5, h6⟩
theorem rs_at_arr' {D : va_G} {s : State} {b base id : Nat} {c : rs_C} {H : Heap} {ty : FieldType} (ht : rs_aty c.1 = some ty) (h0 : ¬ id = 0) (h : rs_at D s b base id c H) : ∃ cA, ArrOfT s cA ty ∧ va_RA s cA ty ∧ H[rs_p b base id]? = some (arrV cA c.2.1 (fun j => rs_v b base (c.2.2 j))) := by
  rcases h with ⟨r, h1, h2, h3⟩ | ⟨ty', h1, h2⟩
  · exfalso
    have := rs_clt h1
    generalize c.1 = k at ht this
    rcases (show k = 0 ∨ k = 1 ∨ k = 2 ∨ k = 3 ∨ k = 4 ∨ k = 5 ∨ k = 6 ∨ k = 7 ∨ k = 8 ∨ k = 9 ∨ k = 10 ∨ k = 11 by omega) with rfl | rfl | rfl | rfl | rfl | rfl | rfl | rfl | rfl | rfl | rfl | rfl <;> cases ht
  · cases ht.symm.trans h1
    rcases h2 with h2 | ⟨e, -⟩
    · exact h2
    · exact absurd e h0
theorem rs_up_v (b base : Nat) (f : Nat → Value) (k : Nat) (v : Value) (j : Nat) : rs_v b base (va_up f k v j) = updV (fun j => rs_v b base (f j)) k (rs_v b base v) j := by
  simp only [va_up, updV]
  split <;> rfl
theorem rs_tyok : ∀ k, k < 12 → ∀ j, j < 43 → rs_ty k j = .int ∨ rs_ty k j = .long ∨ rs_ty k j = .boolean ∨ (∃ C, rs_ty k j = .object C) ∨ ∃ t, rs_ty k j = .array t := by
  have h : ∀ k, k < 12 → ∀ j, j < 43 → (match rs_ty k j with | .int => true | .long => true | .boolean => true | .object _ => true | .array _ => true | _ => false) = true := by decide +kernel
  intro k hk j hj
  have h1 := h k hk j hj
  generalize rs_ty k j = t at h1
  cases t <;> first | (simp; done) | cases h1
theorem rs_fit_n {b base : Nat} {ty : FieldType} {v : Value} (ht : ty = .int ∨ ty = .long ∨ ty = .boolean ∨ (∃ C, ty = .object C) ∨ ∃ t, ty = .array t) (h : fits ty v = true) : narrow ty (rs_v b base v) = rs_v b base v ∧ fits ty (rs_v b base v) = true := by
  rcases ht with rfl | rfl | rfl | ⟨C, rfl⟩ | ⟨t, rfl⟩
  · cases v <;> first | (cases h; done) | exact ⟨rfl, rfl⟩
  · cases v <;> first | (cases h; done) | exact ⟨rfl, rfl⟩
  · cases v <;> first | (cases h; done) | skip
    rename_i z
    refine ⟨?_, h⟩
    have h1 : z = 0 ∨ z = 1 := by simpa [fits] using h
    rcases h1 with rfl | rfl <;> rfl
  · cases v <;> first | (cases h; done) | exact ⟨rfl, rfl⟩
  · cases v <;> first | (cases h; done) | exact ⟨rfl, rfl⟩
theorem rs_n43 : ∀ (k : Nat) (r : vw_C), rs_cl[k]? = some r → r.2.2 ≤ 43 := by
  intro k r h
  have hk := rs_clt h
  have h2 : ∀ k, k < 12 → (match rs_cl[k]? with | some r => decide (r.2.2 ≤ 43) | none => true) = true := by decide +kernel
  have h3 := h2 k hk
  rw [h] at h3
  exact of_decide_eq_true h3
section RSH
variable {p : Program} {l : Launch} {e : Env} {R : Room} {s : State} {m : MethodId} {args : Array Value} {below : List Frame} {meth : Method} {c : Code} {H : Heap} {locs : List Loc} {cells slots : Nat} {Q : State → Prop} {cc : ByteArray} {pc : Nat} {ls : Array Slot} {b base : Nat} {st : List Value} {D : va_G} {y : MethodName} {w : rs_H} {L : rs_L}
theorem rs_get_W (hM : rs_M D p s m args meth c y) (hb : c.code = cc) (hG : rs_G D s b base w H) {i : Nat} {st' : List Value} (h : rs_get (rs_fl y.cls i) st w = some st') (hd : decode cc pc = .ok (.getfield i, 3)) (k : W p l e R s m args below meth c H locs cells slots Q (F0 m (pc + 3) ls (st'.map (rs_v b base)))) : W p l e R s m args below meth c H locs cells slots Q (F0 m pc ls (st.map (rs_v b base))) := by
  obtain ⟨hx, -, hown, hts, -, -, hK⟩ := hM
  unfold rs_get at h
  split at h
  · rename_i f q r hf
    split at h
    · rename_i c1 hc1
      split at h
      · rename_i hk1
        cases h
        obtain ⟨rr, e1, e2, -, -, e5, e6⟩ := rs_fl_s hf
        obtain ⟨cell, q1, q2, q3, q4⟩ := (rs_at_obj (by rw [hk1]; exact e1) (hG.2.2 q c1 hc1).2).2
        rw [hk1] at q2 q4
        obtain ⟨hSl, hfc, kC, hkC, hkind⟩ := hK.1 f.1 rr e1
        obtain ⟨cf, kf, fi, fd, hi, hsl⟩ := hSl f.2.1 e2
        have hin := rs_lays f.1 (rs_clt e1) rr e1
        refine W.getf hx hb hown (hts _ (rs_tb_in e6 rfl)) (by rw [← e5]; exact hi) (u_facts hfc hkC (u_lays hts hin e2) hi).1 q1 (by rw [q3]; exact fun h => by cases h) (v := rs_v b base (c1.2.2 f.2.1)) ?_ rfl rfl hd k
        rw [hsl]
        exact q4 _ e2
      · cases h
    · cases h
  · cases h
theorem rs_pfl_s {i : Nat} {f : Nat × Nat × FieldType} (h : rs_pfl y i = some f) : ∃ fin, rs_fl y.cls i = some (f.1, f.2.1, f.2.2, fin) ∧ (fin = false ∨ (y.name = "<init>" ∧ ∃ r, rs_cl[f.1]? = some r ∧ (r.2.1 f.2.1).1 = y.cls)) := by
  unfold rs_pfl at h
  split at h
  · cases h
  · rename_i q hq
    split at h
    · rename_i hc
      cases h
      refine ⟨q.2.2.2, hq, ?_⟩
      rw [Bool.or_eq_true, Bool.and_eq_true] at hc
      rcases hc with hc | ⟨h1, h2⟩
      · exact Or.inl (by simpa using hc)
      · refine Or.inr ⟨of_decide_eq_true h1, ?_⟩
        unfold rs_dcl at h2
        split at h2
        · rename_i r hr
          exact ⟨r, hr, of_decide_eq_true h2⟩
        · cases h2
    · cases h
set_option maxHeartbeats 1000000 in
theorem rs_put_W (hM : rs_M D p s m args meth c y) (hb : c.code = cc) (hG : rs_G D s b base w H) (hS : va_S (fun q => base ≤ q) s.heap H locs) {i : Nat} {o : List Value × rs_H} (h : rs_put (rs_pfl y i) st w = some o) (hd : decode cc pc = .ok (.putfield i, 3))
    (k : ∀ H1 locs1, rs_G D s b base o.2 H1 → va_S (fun q => base ≤ q) s.heap H1 locs1 → W p l e R s m args below meth c H1 locs1 cells slots Q (F0 m (pc + 3) ls (o.1.map (rs_v b base)))) : W p l e R s m args below meth c H locs cells slots Q (F0 m pc ls (st.map (rs_v b base))) := by
  obtain ⟨hx, -, hown, hts, -, hnm, hK⟩ := hM
  unfold rs_put at h
  split at h
  · rename_i f v q r hf
    split at h
    · rename_i c1 hc1
      split at h
      · rename_i hk1
        obtain ⟨hk1, hfit⟩ := hk1
        cases h
        obtain ⟨fin, hf1, hf2⟩ := rs_pfl_s hf
        obtain ⟨rr, e1, e2, e3, e4, e5, e6⟩ := rs_fl_s hf1
        dsimp only at e1 e2 e3 e4 e5 e6
        have hat := (hG.2.2 q c1 hc1).2
        obtain ⟨z0, cell, q1, q2, q3, q4⟩ := rs_at_obj (by rw [hk1]; exact e1) hat
        rw [hk1] at q2 q4
        obtain ⟨hSl, hfc, kC, hkC, hkind⟩ := hK.1 f.1 rr e1
        obtain ⟨cf, kf, fi, fd, hi, hsl⟩ := hSl f.2.1 e2
        have hlt12 := rs_clt e1
        have hin := rs_lays f.1 hlt12 rr e1
        have hap := va_apart (own := y.cls) (D := D) (cl := rs_cl) (tys := []) (ci := f.1) hts hin (rs_ty f.1) (rs_types f.1 hlt12 rr e1) (rs_names f.1 hlt12 rr e1) hK e1
        have hst := (u_facts hfc hkC (u_lays hts hin e2) hi).1
        have hty := rs_types f.1 hlt12 rr e1 _ e2
        rw [e3] at hfit
        obtain ⟨hn, hfit'⟩ := rs_fit_n (b := b) (base := base) (rs_tyok f.1 hlt12 f.2.1 (Nat.lt_of_lt_of_le e2 (rs_n43 _ _ e1))) hfit
        have h0 : ¬ q = 0 := by
          rintro rfl
          have h12 := (hG.2.2 0 c1 hc1).1.2 rfl
          rw [hk1] at h12
          omega
        have hA : base ≤ rs_p b base q := by
          cases q with
          | zero => exact absurd rfl h0
          | succ j => exact Nat.le_add_right _ _
        have fin' : ∀ H' : Heap, H'[rs_p b base q]? = some (cell.setSlot fd.slot (rs_v b base v)) → H'.size = H.size → (∀ a, a ≠ rs_p b base q → H'[a]? = H[a]?) → rs_G D s b base (rs_up w q (c1.1, c1.2.1, va_up c1.2.2 f.2.1 v)) H' := by
          intro H' z1 z2 z3
          refine hG.up hc1 rfl z2 z3 (Or.inl ⟨rr, by rw [hk1]; exact e1, z0, ?_⟩)
          rw [hsl] at z1
          refine t_OB.to (V := updV (fun j => rs_v b base (c1.2.2 j)) f.2.1 (rs_v b base v)) ⟨_, z1, by rw [hk1]; exact q2, q3, by rw [hk1]; exact t_set q4 hap e2 _⟩ (fun j _ => (rs_up_v b base _ _ _ j).symm)
        have hlink := hts _ (rs_tb_in e6 rfl)
        have hi' := hi
        rw [e5] at hi'
        rcases hf2 with hf2 | ⟨g1, r', g2, g3⟩
        · have hlay := hts _ (hin _ (u_in_lay e2))
          unfold u_lay at hlay
          rw [if_neg (by rw [← e4, hf2]; decide)] at hlay
          have h6 := u_store hfc hkC hkind hlay hi hty hn hfit'
          refine W.putK hx hb (f := fd) ⟨hown, hlink, ⟨_, _, _, hi'⟩, hst⟩ (by rw [q2]; exact h6) q1 q3 (by rw [hsl]; exact k2_hasslot (q4 _ e2)) rfl rfl hd fun H' z1 z2 z3 => ?_
          exact k H' _ (fin' H' z1 z2 z3) (hS.put z2 z3 hA)
        · cases e1.symm.trans g2
          by_cases hfin : (rr.2.1 f.2.1).2.2.2 = true
          · have hlay := hts _ (hin _ (u_in_lay e2))
            unfold u_lay at hlay
            rw [if_pos hfin] at hlay
            have hcf : m.cls = cf := by
              obtain ⟨_, _, c', _, _, _, -, -, hf', -, -, -, hown2, -⟩ := Cond.laysFinal_spec hlay
              have x1 : c' = cf := by have := hi.symm.trans hf'; simp at this; exact this.1.symm
              rw [g3] at hown2
              rw [← x1]; exact Option.some.inj (hown.symm.trans hown2)
            have h6 := u_fits hfc hkC hkind (Or.inr hlay) hi hty hn hfit'
            refine W.putFinK hx hb hown hlink hi' hst hcf ((hnm g1).trans g1) (by rw [q2]; exact h6) q1 q3 (by rw [hsl]; exact k2_hasslot (q4 _ e2)) rfl rfl hd fun H' z1 z2 z3 => ?_
            exact k H' _ (fin' H' z1 z2 z3) (hS.put z2 z3 hA)
          · have hlay := hts _ (hin _ (u_in_lay e2))
            unfold u_lay at hlay
            rw [if_neg hfin] at hlay
            have h6 := u_store hfc hkC hkind hlay hi hty hn hfit'
            refine W.putK hx hb (f := fd) ⟨hown, hlink, ⟨_, _, _, hi'⟩, hst⟩ (by rw [q2]; exact h6) q1 q3 (by rw [hsl]; exact k2_hasslot (q4 _ e2)) rfl rfl hd fun H' z1 z2 z3 => ?_
            exact k H' _ (fin' H' z1 z2 z3) (hS.put z2 z3 hA)
      · cases h
    · cases h
  · cases h
theorem rs_okK_s {k k' : Nat} (h : rs_okK k k' = true) (hk : k = 12 ∨ k = 13 ∨ k = 14) : k' = k := by
  unfold rs_okK at h
  rw [if_neg (by omega)] at h
  exact of_decide_eq_true h
theorem rs_okK_a {k' : Nat} (h : rs_okK 99 k' = true) : 15 ≤ k' ∧ k' < 20 := of_decide_eq_true h
set_option maxHeartbeats 1000000 in
theorem rs_ald_W (hM : rs_M D p s m args meth c y) (hb : c.code = cc) (hG : rs_G D s b base w H) {i : Instr} {kd : Nat} (hi : i = .iaload ∧ kd = 12 ∨ i = .laload ∧ kd = 13 ∨ i = .baload ∧ kd = 14 ∨ i = .aaload ∧ kd = 99) {st' : List Value} (h : rs_ald kd st w = some st') (hd : decode cc pc = .ok (i, 1)) (k : W p l e R s m args below meth c H locs cells slots Q (F0 m (pc + 1) ls (st'.map (rs_v b base)))) : W p l e R s m args below meth c H locs cells slots Q (F0 m pc ls (st.map (rs_v b base))) := by
  have hx := hM.1
  unfold rs_ald at h
  split at h
  · rename_i j q r
    split at h
    · rename_i c1 hc1
      split at h
      · rename_i hk
        obtain ⟨hk1, hk2, hk3⟩ := hk
        cases h
        have hat := (hG.2.2 q c1 hc1).2
        rcases hi with ⟨rfl, rfl⟩ | ⟨rfl, rfl⟩ | ⟨rfl, rfl⟩ | ⟨rfl, rfl⟩
        · have e := rs_okK_s hk1 (by omega)
          obtain ⟨cell, a1, a2, a3, a4, a5⟩ := rs_at_arr (by rw [e]; rfl) hat
          exact W.iald (v := rs_v b base (c1.2.2 j.toNatClampNeg)) hx hb a1 a2 a3 (fun z => z.elim hk2 (fun z => by rw [a4] at z; omega)) (a5 _ hk3) rfl rfl hd k
        · have e := rs_okK_s hk1 (by omega)
          obtain ⟨cell, a1, a2, a3, a4, a5⟩ := rs_at_arr (by rw [e]; rfl) hat
          exact W.lald (v := rs_v b base (c1.2.2 j.toNatClampNeg)) hx hb a1 a2 a3 (fun z => z.elim hk2 (fun z => by rw [a4] at z; omega)) (a5 _ hk3) rfl rfl hd k
        · have e := rs_okK_s hk1 (by omega)
          obtain ⟨cell, a1, a2, a3, a4, a5⟩ := rs_at_arr (by rw [e]; rfl) hat
          exact W.zald (v := rs_v b base (c1.2.2 j.toNatClampNeg)) hx hb a1 a2 a3 (fun z => z.elim hk2 (fun z => by rw [a4] at z; omega)) (a5 _ hk3) rfl rfl hd k
        · obtain ⟨e1, e2⟩ := rs_okK_a hk1
          obtain ⟨r', -, g2⟩ := rs_akt _ e2 e1
          obtain ⟨cell, a1, a2, a3, a4, a5⟩ := rs_at_arr g2 hat
          exact W.aald (v := rs_v b base (c1.2.2 j.toNatClampNeg)) hx hb a1 a2 rfl a3 (fun z => z.elim hk2 (fun z => by rw [a4] at z; omega)) (a5 _ hk3) rfl rfl hd k
      · cases h
    · cases h
  · cases h
theorem rs_alen_W (hM : rs_M D p s m args meth c y) (hb : c.code = cc) (hG : rs_G D s b base w H) {st' : List Value} (h : rs_alen st w = some st') (hd : decode cc pc = .ok (.arraylength, 1)) (k : W p l e R s m args below meth c H locs cells slots Q (F0 m (pc + 1) ls (st'.map (rs_v b base)))) : W p l e R s m args below meth c H locs cells slots Q (F0 m pc ls (st.map (rs_v b base))) := by
  have hx := hM.1
  unfold rs_alen at h
  split at h
  · rename_i q r
    split at h
    · rename_i c1 hc1
      split at h
      · rename_i hk
        cases h
        have hat := (hG.2.2 q c1 hc1).2
        have ht : ∃ ty, rs_aty c1.1 = some ty := by
          rcases hat with ⟨r', h1, -⟩ | ⟨ty, h1, -⟩
          · exact absurd (rs_clt h1) (by omega)
          · exact ⟨ty, h1⟩
        obtain ⟨ty, ht⟩ := ht
        obtain ⟨cell, a1, a2, a3, a4, a5⟩ := rs_at_arr ht hat
        exact W.alen (n := Int32.ofNat c1.2.1) hx hb a1 a2 (by rw [a4]) rfl rfl hd k
      · cases h
    · cases h
  · cases h
theorem rs_up_arr {id : Nat} {c1 : rs_C} {cA : ClassId} {ty : FieldType} {H' : Heap} {v : Value} {j : Nat} (ht : rs_aty c1.1 = some ty) (h1 : ArrOfT s cA ty) (h2 : va_RA s cA ty) (h3 : H'[rs_p b base id]? = some ((arrV cA c1.2.1 (fun j => rs_v b base (c1.2.2 j))).setSlot j (rs_v b base v))) : rs_at D s b base id (c1.1, c1.2.1, va_up c1.2.2 j v) H' := by
  refine Or.inr ⟨ty, ht, Or.inl ⟨cA, h1, h2, ?_⟩⟩
  rw [h3, arrV_store]
  congr 2
  funext k
  exact (rs_up_v b base _ _ _ k).symm
set_option maxHeartbeats 1000000 in
theorem rs_ast_W (hM : rs_M D p s m args meth c y) (hb : c.code = cc) (hG : rs_G D s b base w H) (hS : va_S (fun q => base ≤ q) s.heap H locs) {i : Instr} {kd : Nat} (hi : i = .iastore ∧ kd = 12 ∨ i = .lastore ∧ kd = 13 ∨ i = .bastore ∧ kd = 14 ∨ i = .aastore ∧ kd = 99) {o : List Value × rs_H} (h : rs_ast kd st w = some o) (hd : decode cc pc = .ok (i, 1))
    (k : ∀ H1 locs1, rs_G D s b base o.2 H1 → va_S (fun q => base ≤ q) s.heap H1 locs1 → W p l e R s m args below meth c H1 locs1 cells slots Q (F0 m (pc + 1) ls (o.1.map (rs_v b base)))) : W p l e R s m args below meth c H locs cells slots Q (F0 m pc ls (st.map (rs_v b base))) := by
  have hx := hM.1
  have hK := hM.2.2.2.2.2.2
  unfold rs_ast at h
  split at h
  · rename_i v j q r
    split at h
    · rename_i c1 hc1
      split at h
      · rename_i hk
        obtain ⟨⟨h0, hk1, hv⟩, hk2, hk3⟩ := hk
        cases h
        have hat := (hG.2.2 q c1 hc1).2
        have hA : base ≤ rs_p b base q := by
          cases q with
          | zero => exact absurd rfl h0
          | succ j => exact Nat.le_add_right _ _
        rcases hi with ⟨rfl, rfl⟩ | ⟨rfl, rfl⟩ | ⟨rfl, rfl⟩ | ⟨rfl, rfl⟩
        · have e := rs_okK_s hk1 (by omega)
          obtain ⟨cA, a1, a2, a3⟩ := rs_at_arr' (ty := .int) (by rw [e]; rfl) h0 hat
          cases v <;> first | (cases hv; done) | skip
          rename_i z
          exact W.iast hx hb a3 (a1 _ _) (fun q => by cases q) (fun z => z.elim hk2 (fun z => by rw [arrV_size] at z; omega)) rfl rfl hd fun H' z1 z2 z3 => k H' _ (hG.up hc1 rfl z2 z3 (rs_up_arr (by rw [e]; rfl) a1 a2 z1)) (hS.put z2 z3 hA)
        · have e := rs_okK_s hk1 (by omega)
          obtain ⟨cA, a1, a2, a3⟩ := rs_at_arr' (ty := .long) (by rw [e]; rfl) h0 hat
          cases v <;> first | (cases hv; done) | skip
          rename_i z
          exact W.last hx hb a3 (a1 _ _) (fun q => by cases q) (fun z => z.elim hk2 (fun z => by rw [arrV_size] at z; omega)) rfl rfl hd fun H' z1 z2 z3 => k H' _ (hG.up hc1 rfl z2 z3 (rs_up_arr (by rw [e]; rfl) a1 a2 z1)) (hS.put z2 z3 hA)
        · have e := rs_okK_s hk1 (by omega)
          obtain ⟨cA, a1, a2, a3⟩ := rs_at_arr' (ty := .boolean) (by rw [e]; rfl) h0 hat
          cases v <;> first | (cases hv; done) | skip
          rename_i z
          have hz : narrow .boolean (.int z) = .int z := by
            have h1 : z = 0 ∨ z = 1 := of_decide_eq_true hv
            rcases h1 with rfl | rfl <;> rfl
          exact W.zast hx hb a3 (a1 _ _) (fun q => by cases q) (fun z => z.elim hk2 (fun z => by rw [arrV_size] at z; omega)) rfl rfl hd fun H' z1 z2 z3 => k H' _ (hG.up hc1 rfl z2 z3 (rs_up_arr (by rw [e]; rfl) a1 a2 (by rw [hz] at z1; exact z1))) (hS.put z2 z3 hA)
        · obtain ⟨e1, e2⟩ := rs_okK_a hk1
          obtain ⟨r', g1, g2⟩ := rs_akt _ e2 e1
          obtain ⟨cA, a1, a2, a3⟩ := rs_at_arr' g2 h0 hat
          have hv' : rs_okA w c1.1 v = true := hv
          cases v with
          | null =>
            exact va_WaastN (C := r'.1) hx hb a3 (a1 _ _) (fun q => by cases q) (fun z => z.elim hk2 (fun z => by rw [arrV_size] at z; omega)) rfl rfl hd fun H' z1 z2 z3 => k H' _ (hG.up hc1 rfl z2 z3 (rs_up_arr g2 a1 a2 z1)) (hS.put z2 z3 hA)
          | ref a =>
            unfold rs_okA at hv'
            dsimp only at hv'
            split at hv'
            · rename_i c2 hc2
              have ek : c2.1 = rs_ak c1.1 := of_decide_eq_true hv'
              obtain ⟨-, cellV, b1, b2, b3, -⟩ := rs_at_obj (by rw [ek]; exact g1) (hG.2.2 a c2 hc2).2
              rw [ek] at b2
              have hcls := (hK.1 _ r' g1).2
              obtain ⟨kA, comp, k1, k2, k3, k4⟩ := a2
              have hcomp : comp = D.1 (rs_ak c1.1) := Option.some.inj (k3.symm.trans hcls.1)
              subst hcomp
              obtain ⟨kC, hkC, -⟩ := hcls.2
              exact W.aast hx hb a3 (fun q h => by cases h) (fun h => by cases h) k1 k2 rfl hkC ⟨hk2, by rw [arrV_size]; exact hk3⟩ b1 (fun q h => by rw [b3] at h; cases h) (by rw [b2]; exact hkC) (by rw [b2]; exact va_assign hcls) rfl rfl hd fun H' z1 z2 z3 => k H' _ (hG.up hc1 rfl z2 z3 (rs_up_arr g2 a1 ⟨kA, _, k1, k2, k3, k4⟩ z1)) (hS.put z2 z3 hA)
            · cases hv'
          | _ => cases hv'
      · cases h
    · cases h
  · cases h
theorem rs_newo_W (hM : rs_M D p s m args meth c y) (hb : c.code = cc) (hG : rs_G D s b base w H) (hS : va_S (fun q => base ≤ q) s.heap H locs) {i : Nat} {o : List Value × rs_H} (h : rs_newo (rs_nw y.cls i) st w = some o) (hd : decode cc pc = .ok (.new i, 3)) {c0 s0 : Nat} (hc : cells + c0 = w.2.1) (hs : slots + s0 = w.2.2) (hR : o.2.2.1 ≤ R.cells + c0 ∧ o.2.2.2 ≤ R.slots + s0)
    (k : ∀ H1 cells1 slots1, rs_G D s b base o.2 H1 → va_S (fun q => base ≤ q) s.heap H1 locs → cells1 + c0 = o.2.2.1 → slots1 + s0 = o.2.2.2 → W p l e R s m args below meth c H1 locs cells1 slots1 Q (F0 m (pc + 3) ls (o.1.map (rs_v b base)))) : W p l e R s m args below meth c H locs cells slots Q (F0 m pc ls (st.map (rs_v b base))) := by
  obtain ⟨hx, -, hown, hts, -, -, hK⟩ := hM
  unfold rs_newo at h
  split at h
  · rename_i kk hk
    cases h
    unfold rs_nw at hk
    split at hk
    · cases hk
    · rename_i C hC
      split at hk
      · rename_i r hr
        split at hk
        · rename_i hok
          cases hk
          simp only [Bool.and_eq_true, beq_iff_eq] at hok
          obtain ⟨rfl, h1, h2⟩ := hok
          have hlt := rs_clt hr
          have hin := rs_lays _ hlt r hr
          have hKn := hK.1 _ r hr
          refine W.newcK hx hb hown (hts _ (rs_tb_in (rs_cn_s hC) rfl)) (hts _ (rs_tb_in (rs_has_s h1) rfl)) (hts _ (rs_tb_in (rs_has_s h2) rfl)) rfl hd ?_ ?_ hKn.2.1 rfl fun H1 kC hkC e1 z1 o1 => ?_
          · have := hR.1; simp only [rs_new] at this; omega
          · have := hR.2; simp only [rs_new] at this; omega
          · have hadr := hG.adr
            refine W.eq (g2 := F0 m (pc + 3) ls ((Value.ref w.2.1 :: st).map (rs_v b base))) ?_ (k H1 _ _ (hG.new z1 o1 (Or.inl ⟨r, hr, rfl, ?_⟩)) ⟨Nat.le_trans hS.1 (by omega), fun x g1 g2 => (o1 x (Nat.lt_of_lt_of_le g1 hS.1)).trans (hS.2.1 x g1 g2), hS.2.2⟩ ?_ ?_)
            · simp only [List.map_cons, rs_v, hadr]
            · rw [hadr]
              refine t_OB.to (u_born (rs_ty _) hts hin hKn hkC e1 (rs_types _ hlt r hr)) (fun j hj => ?_)
              dsimp only
              cases rs_ty (rs_kindOf r.1) j <;> rfl
            · simp only [rs_new]; omega
            · simp only [rs_new]; omega
        · cases hk
      · cases hk
  · cases h
theorem rs_va_S_new {H1 : Heap} (hS : va_S (fun q => base ≤ q) s.heap H locs) (z1 : H1.size = H.size + 1) (o1 : ∀ q : Nat, q < H.size → H1[q]? = H[q]?) : va_S (fun q => base ≤ q) s.heap H1 locs := ⟨Nat.le_trans hS.1 (by omega), fun x g1 g2 => (o1 x (Nat.lt_of_lt_of_le g1 hS.1)).trans (hS.2.1 x g1 g2), hS.2.2⟩
theorem rs_newa_s {kd : Option Nat} {o : List Value × rs_H} (h : rs_newa kd st w = some o) : ∃ k n r, kd = some k ∧ st = .int n :: r ∧ ¬ n < 0 ∧ n.toNatClampNeg ≤ 65536 ∧ o = (.ref w.2.1 :: r, rs_new w (k, n.toNatClampNeg, fun _ => match rs_aty k with | some t => defaultValue t | none => .null)) := by
  unfold rs_newa at h
  split at h
  · rename_i k n r
    split at h
    · rename_i hc
      cases h
      exact ⟨k, n, r, rfl, rfl, hc.1, hc.2, rfl⟩
    · cases h
  · cases h
theorem rs_dv (b base : Nat) (t : FieldType) : rs_v b base (defaultValue t) = defaultValue t := by cases t <;> rfl
set_option maxHeartbeats 1000000 in
theorem rs_newp_W (hM : rs_M D p s m args meth c y) (hb : c.code = cc) (hG : rs_G D s b base w H) (hS : va_S (fun q => base ≤ q) s.heap H locs) {t : ArrayType} {o : List Value × rs_H} (h : rs_newa (rs_nk t) st w = some o) (hd : decode cc pc = .ok (.newarray t, 2)) {c0 s0 : Nat} (hc : cells + c0 = w.2.1) (hs : slots + s0 = w.2.2) (hR : o.2.2.1 ≤ R.cells + c0 ∧ o.2.2.2 ≤ R.slots + s0)
    (k : ∀ H1 cells1 slots1, rs_G D s b base o.2 H1 → va_S (fun q => base ≤ q) s.heap H1 locs → cells1 + c0 = o.2.2.1 → slots1 + s0 = o.2.2.2 → W p l e R s m args below meth c H1 locs cells1 slots1 Q (F0 m (pc + 2) ls (o.1.map (rs_v b base)))) : W p l e R s m args below meth c H locs cells slots Q (F0 m pc ls (st.map (rs_v b base))) := by
  obtain ⟨hx, -, hown, hts, -, -, hK⟩ := hM
  obtain ⟨kd, n, r, hk, rfl, hn, hn2, rfl⟩ := rs_newa_s h
  unfold rs_nk at hk
  split at hk
  · rename_i hok
    obtain ⟨kk, hkk, hk2⟩ := List.exists_of_findSome?_eq_some hk
    split at hk2
    · rename_i hty
      cases hk2
      have hby : n.toNatClampNeg * componentBytes (newarray.typeOf t) ≤ 536870912 := by
        have : componentBytes (newarray.typeOf t) ≤ 8 := by cases t <;> exact Nat.le_of_ble_eq_true rfl
        have h3 := Nat.mul_le_mul hn2 this
        omega
      refine va_newaK hx hb (hts _ (rs_tb_in (rs_has_s hok) rfl)) rfl hd rfl hn rfl hby ?_ ?_ rfl fun H1 cA e1 z1 o1 hAr hNm => ?_
      · have := hR.1; simp only [rs_new] at this; omega
      · have := hR.2; simp only [rs_new] at this; omega
      · have hadr := hG.adr
        refine W.eq (g2 := F0 m (pc + 2) ls ((Value.ref w.2.1 :: r).map (rs_v b base))) ?_ (k H1 _ _ (hG.new z1 o1 (Or.inr ⟨_, hty, Or.inl ⟨cA, hAr, ?_, ?_⟩⟩)) (rs_va_S_new hS z1 o1) ?_ ?_)
        · simp only [List.map_cons, rs_v, hadr]
        · cases t <;> exact hNm
        · rw [hadr, e1]
          dsimp only
          rw [hty]
          simp only [rs_dv]
        · simp only [rs_new]; omega
        · simp only [rs_new]; omega
    · cases hk2
  · cases hk
set_option maxHeartbeats 1000000 in
theorem rs_newq_W (hM : rs_M D p s m args meth c y) (hb : c.code = cc) (hG : rs_G D s b base w H) (hS : va_S (fun q => base ≤ q) s.heap H locs) {i : Nat} {o : List Value × rs_H} (h : rs_newa (rs_na y.cls i) st w = some o) (hd : decode cc pc = .ok (.anewarray i, 3)) {c0 s0 : Nat} (hc : cells + c0 = w.2.1) (hs : slots + s0 = w.2.2) (hR : o.2.2.1 ≤ R.cells + c0 ∧ o.2.2.2 ≤ R.slots + s0)
    (k : ∀ H1 cells1 slots1, rs_G D s b base o.2 H1 → va_S (fun q => base ≤ q) s.heap H1 locs → cells1 + c0 = o.2.2.1 → slots1 + s0 = o.2.2.2 → W p l e R s m args below meth c H1 locs cells1 slots1 Q (F0 m (pc + 3) ls (o.1.map (rs_v b base)))) : W p l e R s m args below meth c H locs cells slots Q (F0 m pc ls (st.map (rs_v b base))) := by
  obtain ⟨hx, -, hown, hts, hnw, -, hK⟩ := hM
  obtain ⟨kd, n, r, hk, rfl, hn, hn2, rfl⟩ := rs_newa_s h
  unfold rs_na at hk
  split at hk
  · cases hk
  · rename_i C hC
    split at hk
    · rename_i hok
      obtain ⟨kk, hkk, hk2⟩ := List.exists_of_findSome?_eq_some hk
      split at hk2
      · rename_i hty
        cases hk2
        refine W.anew hx hb hown (hts _ (rs_tb_in (rs_cn_s hC) rfl)) (va_AO.use (hnw.2 C (rs_has_s hok))) rfl hd rfl hn (by omega) ?_ ?_ fun cA kA comp f1 f2 f3 f4 => ?_
        · have := hR.1; simp only [rs_new] at this; omega
        · have := hR.2; simp only [rs_new] at this; omega
        · generalize hH1 : H.push ({ cls := cA, slots := Array.replicate n.toNatClampNeg .null, vm := .none } : Cell) = H1
          have z1 : H1.size = H.size + 1 := by rw [← hH1, Array.size_push]
          have e1 : H1[H.size]? = some (arrV cA n.toNatClampNeg (fun _ => .null)) := by rw [← hH1, Array.getElem?_push_size, ← arrV_new]
          have o1 : ∀ q : Nat, q < H.size → H1[q]? = H[q]? := fun q hq => by rw [← hH1, Array.getElem?_push, if_neg (Nat.ne_of_lt hq)]
          have hAr : ArrOfT s cA (.object C) := fun N z => ⟨(fun k h => by cases h), kA, f2, comp, f3⟩
          have hadr := hG.adr
          refine W.eq (g2 := F0 m (pc + 3) ls ((Value.ref w.2.1 :: r).map (rs_v b base))) ?_ (k H1 _ _ (hG.new z1 o1 (Or.inr ⟨_, hty, Or.inl ⟨cA, hAr, ⟨kA, comp, f2, f3, f4, f1⟩, ?_⟩⟩)) (rs_va_S_new hS z1 o1) ?_ ?_)
          · simp only [List.map_cons, rs_v, hadr]
          · rw [hadr, e1]
            dsimp only
            rw [hty]
            simp only [rs_dv]
            rfl
          · simp only [rs_new]; omega
          · simp only [rs_new]; omega
      · cases hk2
    · cases hk
end RSH
