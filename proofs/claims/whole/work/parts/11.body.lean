/-! a whole run -/
theorem rs_call_nr {lk : Option (MethodName × Nat × Nat)} {mode nx : Nat} {st : List Value} {w : rs_H} {v : Option Value} (h : rs_call lk mode nx st w = some (.inr (.inr v))) : False := by
  unfold rs_call at h
  split at h
  · cases h
  · split at h
    · cases h
    · split at h
      · split at h <;> cases h
      · split at h
        · split at h
          · split at h <;> cases h
          · cases h
        · cases h
      · split at h
        · split at h <;> cases h
        · cases h
theorem rs_nar {t : FieldType} {z : Int32} (h : rs_fz t z = true) : narrow t (.int z) = .int z := by
  cases t
  case int => rfl
  case boolean =>
    have h1 : z = 0 ∨ z = 1 := of_decide_eq_true h
    rcases h1 with rfl | rfl <;> rfl
  all_goals cases h
theorem rs_ret_s {y : MethodName} {q : rs_I} {L : rs_L} {st : List Value} {w : rs_H} {v : Option Value} (h : rs_exec y q L st w = some (.inr (.inr v))) : (q.1 = .ireturn ∧ ∃ z t, st = [.int z] ∧ rs_rt y = some t ∧ rs_fz t z = true ∧ v = some (.int z)) ∨ (q.1 = .lreturn ∧ ∃ z, st = [.long z] ∧ rs_rt y = some .long ∧ v = some (.long z)) ∨ (q.1 = .areturn ∧ ∃ z C, st = [z] ∧ rs_rt y = some (.object C) ∧ rs_isr z = true ∧ v = some z) ∨ (q.1 = .return_ ∧ st = [] ∧ rs_rt y = none ∧ v = none) := by
  obtain ⟨i, a⟩ := q
  by_cases hi : rs_isC i = true
  · cases i <;> first | (cases hi; done) | skip
    case ireturn =>
      unfold rs_exec at h
      dsimp only at h
      split at h
      · rename_i z t ht
        split at h
        · rename_i hf
          cases h
          exact Or.inl ⟨rfl, z, t, rfl, ht, hf, rfl⟩
        · cases h
      · cases h
    case lreturn =>
      unfold rs_exec at h
      dsimp only at h
      split at h
      · rename_i z ht
        cases h
        exact Or.inr (Or.inl ⟨rfl, z, rfl, ht, rfl⟩)
      · cases h
    case areturn =>
      unfold rs_exec at h
      dsimp only at h
      split at h
      · rename_i z C ht
        split at h
        · rename_i hf
          cases h
          exact Or.inr (Or.inr (Or.inl ⟨rfl, z, C, rfl, ht, hf, rfl⟩))
        · cases h
      · cases h
    case return_ =>
      unfold rs_exec at h
      dsimp only at h
      split at h
      · rename_i ht
        cases h
        exact Or.inr (Or.inr (Or.inr ⟨rfl, rfl, ht, rfl⟩))
      · cases h
    case invokestatic j =>
      exfalso
      unfold rs_exec at h
      dsimp only at h
      split at h
      · exact rs_call_nr h
      · exact rs_map_no h
    case invokevirtual j =>
      exfalso
      have h' : rs_call (rs_lk 1 y.cls j) 1 a.2.1 st w = some (.inr (.inr v)) := h
      exact rs_call_nr h'
    case invokespecial j =>
      exfalso
      unfold rs_exec at h
      dsimp only at h
      cases ho : rs_oi y.cls j with
      | false => rw [ho, cond_false] at h; exact rs_call_nr h
      | true =>
        rw [ho, cond_true] at h
        split at h
        · split at h <;> cases h
        · cases h
  · exact (rs_exec_no (by simpa using hi) h).elim
theorem rs_body (l : Launch) (D : va_G) (b base : Nat) : ∀ (n d : Nat) (y : MethodName) (pc : Nat) (L : rs_L) (st : List Value) (w w' : rs_H) (v : Option Value), rs_run n d y pc L st w = some (w', v) →
    ∀ {p : Program} {e : Env} {R : Room} {s : State} {m : MethodId} {args : Array Value} {below : List Frame} {meth : Method} {c : Code} {H : Heap} {locs : List Loc} {cells slots : Nat} {Q : State → Prop} {ls : Array Slot} {c0 s0 : Nat},
    rs_M D p s m args meth c y → rs_G D s b base w H → va_S (fun q => base ≤ q) s.heap H locs → L.length = c.maxLocals → lv_has ls c.maxLocals (rs_la b base 0 L) → cells + c0 = w.2.1 → slots + s0 = w.2.2 → d + 1 ≤ R.frames ∧ 64 * (d + 1) ≤ R.locals → w'.2.1 ≤ R.cells + c0 ∧ w'.2.2 ≤ R.slots + s0 →
    (∀ H1 locs1 cells1 slots1 ls1 pc1 L1 st1, rs_G D s b base w' H1 → va_S (fun q => base ≤ q) s.heap H1 locs1 → cells1 + c0 = w'.2.1 → slots1 + s0 = w'.2.2 → rs_step y pc1 L1 st1 w' = some (.inr (.inr v)) → W p l e R s m args below meth c H1 locs1 cells1 slots1 Q (F0 m pc1 ls1 (st1.map (rs_v b base)))) →
    W p l e R s m args below meth c H locs cells slots Q (F0 m pc ls (st.map (rs_v b base))) := by
  intro n
  induction n with
  | zero => intro d y pc L st w w' v h; cases h
  | succ n ih =>
    intro d y pc L st w w' v h p e R s m args below meth c H locs cells slots Q ls c0 s0 hM hG hS hlen hl hc hs hR hRc fin
    rw [rs_run] at h
    cases hst : rs_step y pc L st w with
    | none => rw [hst] at h; cases h
    | some o =>
      rw [hst] at h
      rcases o with z | z | v0
      · have hmono := rs_run_mono _ _ _ _ _ _ _ _ _ h
        refine rs_next hM hG hS hlen hl hc hs ⟨by omega, by omega⟩ hst ⟨by omega, by omega⟩ ?_
        intro H1 locs1 cells1 slots1 ls1 g1 g2 g3 g4 g5 g6
        exact ih _ _ _ _ _ _ _ _ h hM g1 g2 g5 g6 g3 g4 hR hRc fin
      · dsimp only at h
        cases d with
        | zero => cases h
        | succ d =>
          dsimp only at h
          cases he : rs_ent z.1 z.2.1 with
          | none => rw [he] at h; cases h
          | some l0 =>
            rw [he] at h
            dsimp only at h
            cases hr : rs_run n d z.1 0 l0 [] w with
            | none => rw [hr] at h; cases h
            | some u =>
              rw [hr] at h
              have hm1 := rs_run_mono _ _ _ _ _ _ _ _ _ hr
              have hm2 := rs_run_mono _ _ _ _ _ _ _ _ _ h
              refine rs_call_W (w' := u.1) (v := u.2) hM hG hS hl.1 (d := d) ⟨by omega, by omega⟩ hst ⟨by omega, by omega⟩ ?_ ?_
              · intro q hq hpl hnx
                unfold rs_met
                refine Met.ofW (cc := q.1) (maxL := q.2.1) (ret := q.2.2) hpl rfl ?_
                intro p2 e2 s2 m2 args2 below2 meth2 c2 s3 B hml2 hv2
                obtain ⟨rfl, hG2, hK2, hN2⟩ := hv2
                have hts2 := atoms_spec (ws := Jvm.Cond.code z.1 q.1 q.2.1 q.2.2 :: rs_tb) B.pre
                have hcd : rs_code z.1 = some q := by
                  unfold rs_code
                  rw [if_neg hnx]
                  exact hq
                unfold rs_ent at he
                rw [hcd] at he
                dsimp only at he
                split at he
                · rename_i hle
                  cases he
                  have hl2 := lv_entry (z.2.1.map (rs_v b base)) (n := q.2.1) (by rw [rs_al_len]; exact hle)
                  rw [lg_entry_eq]
                  rw [← rs_la_app b base z.2.1 0 (q.2.1 - (rs_al z.2.1).length)] at hl2
                  rw [← hml2] at hl2
                  refine ih d z.1 0 _ [] w u.1 u.2 hr (c0 := w.2.1) (s0 := w.2.2) ⟨B.exec, ⟨q, hcd, B.bytes, hml2⟩, findClass_of_methodNamed B.named, fun w hw => hts2 w (List.mem_cons_of_mem _ hw), hN2, fun _ => (name_of_methodNamed B.named B.method).1, hK2⟩ hG2 va_S.rf ?_ (by rw [hml2] at hl2 ⊢; exact hl2) (Nat.zero_add _) (Nat.zero_add _) ⟨Nat.le_refl _, Nat.le_refl _⟩ ⟨?_, ?_⟩ ?_
                  · rw [List.length_append, List.length_replicate, hml2]
                    omega
                  · show u.1.2.1 ≤ (u.1.2.1 - w.2.1) + w.2.1
                    omega
                  · show u.1.2.2 ≤ (u.1.2.2 - w.2.2) + w.2.2
                    omega
                  · intro H1 locs1 cells1 slots1 ls1 pc1 L1 st1 k1 k2 k3 k4 k5
                    have hx2 := B.exec
                    have hb2 := B.bytes
                    have hrt2 := B.returns
                    have hlk2 := B.notSynchronized
                    unfold rs_step at k5
                    split at k5
                    · cases k5
                    · rename_i qq hqq
                      obtain ⟨q1, hcode1, i, nn, hd, hok, rfl⟩ := rs_dec_s hqq
                      cases hcd.symm.trans hcode1
                      have hrt : rs_rt z.1 = q.2.2 := by unfold rs_rt; rw [hcd]
                      obtain rfl : cells1 = u.1.2.1 - w.2.1 := by omega
                      obtain rfl : slots1 = u.1.2.2 - w.2.2 := by omega
                      have hpost : ∀ t : State, t.heap = H1 → s2.WarmedH t.vm → rs_G D t b base u.1 t.heap ∧ va_F (fun q => base ≤ q) s2 t := fun t ht hW => ⟨by rw [ht]; exact k1.moved hW.alike, k2.F ht⟩
                      rcases rs_ret_s k5 with ⟨rfl, zz, t, rfl, h1, h2, h3⟩ | ⟨rfl, zz, rfl, h1, h3⟩ | ⟨rfl, zz, C, rfl, h1, h2, h3⟩ | ⟨rfl, rfl, h1, h3⟩
                      · obtain rfl := rs_okI_len (by intros; contradiction) hok
                        rw [hrt] at h1
                        rw [h1] at hrt2
                        have hn : narrow t (.int zz) = .int zz := rs_nar h2
                        exact W.zret hx2 hb2 hrt2 hn (fun t ht hW => ⟨by rw [h3]; rfl, hpost t ht hW⟩) k2.2.2 hd hlk2
                      · obtain rfl := rs_okI_len (by intros; contradiction) hok
                        rw [hrt] at h1
                        rw [h1] at hrt2
                        exact W.lret hx2 hb2 hrt2 (fun t ht hW => ⟨by rw [h3]; rfl, hpost t ht hW⟩) k2.2.2 hd hlk2
                      · obtain rfl := rs_okI_len (by intros; contradiction) hok
                        rw [hrt] at h1
                        rw [h1] at hrt2
                        exact W.aret hx2 hb2 hrt2 (Or.inl ⟨C, rfl⟩) (by rcases rs_isr_s h2 with rfl | ⟨a, rfl⟩; exact Or.inl rfl; exact Or.inr ⟨_, rfl⟩) (fun t ht hW => ⟨by rw [h3]; rfl, hpost t ht hW⟩) k2.2.2 hd hlk2
                      · obtain rfl := rs_okI_len (by intros; contradiction) hok
                        rw [hrt] at h1
                        rw [h1] at hrt2
                        exact W.vret hx2 hb2 hrt2 (fun t ht hW => ⟨by rw [h3]; rfl, hpost t ht hW⟩) k2.2.2 hd hlk2
                · cases he
              · intro H1 locs1 g1 g2
                exact ih _ _ _ _ _ _ _ _ h hM g1 g2 hlen hl (by omega) (by omega) hR hRc fin
      · cases h
        exact fin H locs cells slots ls pc L st hG hS hc hs hst
