/-! THE CLAIM OUT OF ONE WALK OF THE LAW'S BODY. Your part is whole_start (and what it stands on); all else here is the same for every law, but numbers. -/
def R_law : String := "RecipeScalerLaw"
def lw_P (b : Addr) (xs : List Int32) (args : Array Value) (s : State) : Prop := args = #[.ref b] ∧ s.IntsAt b xs ∧ xs.length ≤ 3584 ∧ (Jvm.Cond.and given_1 narrow_1).before args s = true
def lw_Q (_ : Array Value) (s : State) (o : Outcome) (t : State) : Prop := o = .returned (some (.int 1)) ∧ Framed s o t [] 600000 7302250
def lw_Z (below : List Frame) (a : Array Value) (s : State) : State → Prop := fun t => ∃ o, t.status = .running ∧ Ended t below o ∧ lw_Q a s o t
/-- the law's own end, with 1 on the stack, nothing written that was there before, its room as the claim has it -/
theorem lw_ret {p : Program} {l : Launch} {e : Env} {s : State} {m : MethodId} {below : List Frame} {meth : Method} {c : Code} {b : Nat} (hx : p.tables.exec = Jvm.exec) (hb : c.code = code) (hr : meth.sig.returnType = ret) (hlocks : meth.locks = false) {pc : Nat} {H : Heap} {ls : Array Slot} (hdg : decode code pc = .ok (.ireturn, 1)) : W p l e room_1 s m #[Value.ref b] below meth c H [] 600000 7302250 (lw_Z below #[Value.ref b] s) (F0 m pc ls [.int 1]) := by
  intro T hT X
  obtain ⟨fs, hret, hrun, hended, hW, hframe⟩ := X.leave (v := some (.int 1)) (hlocks := hlocks) (fun h => by rw [hr] at h; cases h)
  have hmeth' : T.vm.method? m = some meth := X.method'
  refine ⟨T.setFrames fs, ?_, .returned (some (.int 1)), hrun, hended, rfl, ⟨_, rfl⟩, hW, hframe⟩
  jvm_step X.here [X.here.top, hx, hb, hdg, hmeth', hr, ret, narrow_b1]
  (try refine ⟨rfl, ?_⟩); (try refine ⟨rfl, ?_⟩)
  first | (intro acts; rw [hret _ acts rfl rfl rfl]) | rw [hret _ _ rfl rfl rfl]
  exact Steps.refl _
/-- what holds at the law's entry: the machine, the code, the tables' words (any of lw_tbl by 'hts w (by decide +kernel)'), the script of L ints xs at the cell b, what the Statement gives of the start (any of its parts by flat_of_before) -/
def lw_At (p : Program) (s : State) (m : MethodId) (meth : Method) (c : Code) (b L : Nat) (xs : Nat → Int32) : Prop :=
  p.tables.exec = Jvm.exec ∧ c.code = code ∧ meth.sig.returnType = ret ∧ c.maxLocals = 4 ∧ s.vm.findClass R_law = some m.cls ∧ (∀ w ∈ lw_tbl, w.before #[Value.ref b] s = true) ∧ va_X b L xs s s.heap ∧ b < s.heap.size ∧ meth.locks = false ∧ (Jvm.Cond.and given_1 narrow_1).before #[Value.ref b] s = true
def rs_w0 (L : Nat) (xs : Nat → Int32) : rs_H := (fun id => if id = 0 then some (12, L, fun j => .int (xs j)) else none, 1, 0)
theorem rs_inst : ∀ k, k < 12 → ∀ r, rs_cl[k]? = some r → Cond.instantiable r.1 r.2.2 ∈ lw_tbl := by
  intro k hk r hr
  have h : ∀ k, k < 12 → (match rs_cl[k]? with | some r => rs_has (.instantiable r.1 r.2.2) | none => true) = true := by decide +kernel
  have h1 := h k hk
  rw [hr] at h1
  exact rs_has_s h1
theorem rs_code_x : rs_code x = some (code, 4, some .boolean) := by unfold rs_code; rw [if_pos rfl]
set_option maxRecDepth 100000 in
theorem rs_start {p : Program} {e : Env} {s : State} {m : MethodId} {below : List Frame} {meth : Method} {c : Code} (l : Launch) {b L : Nat} {xs : Nat → Int32} (C0 : lw_At p s m meth c b L xs) {d : Nat} (hd : d ≤ 1000)
    (hrun : rs_XM d x [.ref 0] (rs_w0 L xs) (fun w' v => v = some (.int 1) ∧ w'.2.1 ≤ 600001 ∧ w'.2.2 ≤ 7302250)) : W p l e room_1 s m #[Value.ref b] below meth c s.heap [] 0 0 (lw_Z below #[Value.ref b] s) (entryFrame m ([Value.ref b] : List Value).toArray 4) := by
  obtain ⟨hx, hb, hr, hml, hown, hts, hX, hbl, hlocks, hgv⟩ := C0
  have hts' : ∀ w ∈ rs_tb, w.before #[Value.ref b] s = true := fun w hw => hts w (List.mem_filter.mp hw).1
  have hD : ∃ D : Nat → ClassId × (Nat → Nat), ∀ (k : Nat) (q : vw_C), rs_cl[k]? = some q → u_Kn s q.1 q.2.1 q.2.2 (D k).1 (D k).2 := by
    have h : ∀ k : Nat, ∃ z : ClassId × (Nat → Nat), ∀ q : vw_C, rs_cl[k]? = some q → u_Kn s q.1 q.2.1 q.2.2 z.1 z.2 := by
      intro k
      cases hk : rs_cl[k]? with
      | none => exact ⟨(0, fun _ => 0), fun q h => by cases h⟩
      | some r =>
        have hlt := rs_clt hk
        obtain ⟨cC, iS, hKn⟩ := u_known (C := r.1) (T := r.2.1) (N := r.2.2) (n := r.2.2) hts' (rs_lays k hlt r hk) (hts _ (rs_inst k hlt r hk))
        exact ⟨(cC, iS), fun q h => by cases h; exact hKn⟩
    exact ⟨fun k => Classical.choose (h k), fun k => Classical.choose_spec (h k)⟩
  obtain ⟨D0, hD0⟩ := hD
  have hK : va_K (fun k => (D0 k).1, fun k => (D0 k).2) rs_cl [] s := ⟨hD0, fun k q h => by simp at h⟩
  obtain ⟨l0, he, n, w', v, hr1, rfl, hn1, hn2⟩ := hrun
  unfold rs_ent at he
  rw [rs_code_x] at he
  dsimp only at he
  split at he
  · cases he
    have hl2 := lv_entry ([.ref b]) (n := 4) (Nat.le_of_ble_eq_true rfl)
    rw [lg_entry_eq]
    have hla := rs_la_app b s.heap.size [Value.ref 0] 0 (4 - (rs_al [Value.ref 0]).length)
    rw [show ([Value.ref b] : List Value) = [Value.ref 0].map (rs_v b s.heap.size) from rfl, ← hla, ← hml] at hl2
    refine rs_body l (fun k => (D0 k).1, fun k => (D0 k).2) b s.heap.size n d x 0 _ [] (rs_w0 L xs) w' (some (.int 1)) hr1 (c0 := 1) (s0 := 0) ⟨hx, ⟨_, rs_code_x, hb, hml⟩, hown, hts', ⟨fun o i y h hm => va_Nw.of rfl (hts _ hm), fun C hm => va_AO.of (hts _ hm)⟩, (fun h => absurd h (by decide)), hK⟩ ⟨hbl, ⟨0, rfl, rfl⟩, ?_⟩ va_S.rf ?_ (by rw [hml] at hl2 ⊢; exact hl2) rfl rfl ⟨?_, ?_⟩ ⟨?_, ?_⟩ ?_
    · intro id c1 hid
      simp only [rs_w0] at hid
      split at hid
      · rename_i h0
        subst h0
        cases hid
        obtain ⟨scr, g1, g2, g3, g4, g5⟩ := hX
        exact ⟨⟨Nat.one_pos, fun _ => rfl⟩, Or.inr ⟨.int, rfl, Or.inr ⟨rfl, rfl, scr, g1, g2, g3, g4, g5⟩⟩⟩
      · cases hid
    · rw [hml]; rfl
    · show d + 1 ≤ 2048; omega
    · show 64 * (d + 1) ≤ 84000; omega
    · exact hn1
    · exact hn2
    · intro H1 locs1 cells1 slots1 ls1 pc1 L1 st1 k1 k2 k3 k4 k5
      unfold rs_step at k5
      split at k5
      · cases k5
      · rename_i qq hqq
        obtain ⟨q1, hcode1, i, nn, hdd, hok, rfl⟩ := rs_dec_s hqq
        cases rs_code_x.symm.trans hcode1
        rcases rs_ret_s k5 with ⟨rfl, zz, t, rfl, h1, h2, h3⟩ | ⟨rfl, zz, rfl, h1, h3⟩ | ⟨rfl, zz, C, rfl, h1, h2, h3⟩ | ⟨rfl, rfl, h1, h3⟩
        · have hnn := rs_okI_len (i := .ireturn) (fun _ _ _ _ z => by cases z) hok
          rw [hnn] at hdd
          have hz1 : zz = 1 := by injection h3 with h3; injection h3 with h3; exact h3.symm
          rw [hz1]
          refine va_forget (fun q hq => k2.2.2 q hq) ?_
          refine W.widen (k := 600000) (n := 7302250) (by omega) (by omega) ?_
          exact lw_ret hx hb hr hlocks hdd
        · cases h3
        · cases h3; cases h2
        · cases h3
  · cases he
