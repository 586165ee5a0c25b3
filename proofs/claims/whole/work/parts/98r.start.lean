/-! the start: both objects stand; the law's run -/
def wsI (C : Nat → Option rs_C) (q j : Nat) : Int32 := match C q with
  | some c => (match c.2.2 j with
    | .int v => v
    | _ => 0)
  | none => 0
def wsJ (C : Nat → Option rs_C) (q j : Nat) : Int64 := match C q with
  | some c => (match c.2.2 j with
    | .long v => v
    | _ => 0)
  | none => 0
def wsR (C : Nat → Option rs_C) (q j : Nat) : Option Nat := match C q with
  | some c => (match c.2.2 j with
    | .ref v => some v
    | _ => none)
  | none => none
theorem wsI_e {C : Nat → Option rs_C} {q k m j : Nat} {V : Nat → Value} {v : Int32} (h : C q = some (k, m, V)) (e : V j = .int v) : wsI C q j = v := by
  unfold wsI
  rw [h]
  dsimp only
  rw [e]
theorem wsJ_e {C : Nat → Option rs_C} {q k m j : Nat} {V : Nat → Value} {v : Int64} (h : C q = some (k, m, V)) (e : V j = .long v) : wsJ C q j = v := by
  unfold wsJ
  rw [h]
  dsimp only
  rw [e]
theorem wsR_e {C : Nat → Option rs_C} {q k m j : Nat} {V : Nat → Value} {o : Option Nat} (h : C q = some (k, m, V)) (e : V j = va_rf o) : wsR C q j = o := by
  unfold wsR
  rw [h]
  dsimp only
  rw [e]
  cases o <;> rfl
theorem ws_eq {C : Nat → Option rs_C} (n s : Nat) (h : ∀ q k m, sk_kn q = some (k, m) → wsC C q k m) : ((C, n, s) : rs_H) = sk_w C n s (wsI C) (wsJ C) (wsR C) := by
  refine Prod.ext (funext fun q => ?_) rfl
  show C q = (match sk_kn q with | some c => some (c.1, c.2, sk_v c.1 (wsI C) (wsJ C) (wsR C) q) | none => C q)
  cases hk : sk_kn q with
  | none => rfl
  | some c =>
    obtain ⟨k, m⟩ := c
    obtain ⟨V, hV, hT⟩ := h q k m hk
    have e : V = sk_v k (wsI C) (wsJ C) (wsR C) q := by
      funext j
      have hj := hT j
      unfold sk_v
      generalize sk_tg k j = t at hj ⊢
      match t with
      | 0 =>
        obtain ⟨x, hx⟩ := hj
        rw [hx]
        exact congrArg Value.int (wsI_e hV hx).symm
      | 1 =>
        obtain ⟨x, hx⟩ := hj
        rw [hx]
        exact congrArg Value.long (wsJ_e hV hx).symm
      | 2 =>
        obtain ⟨x, hx⟩ := hj
        rw [hx]
        exact congrArg va_rf (wsR_e hV hx).symm
      | _ + 3 => exact hj
    show C q = some (k, m, sk_v k (wsI C) (wsJ C) (wsR C) q)
    rw [hV, ← e]
theorem wsC_kn {C : Nat → Option rs_C} (hX : wsX C) (hY : wsY C) : ∀ q k m, sk_kn q = some (k, m) → wsC C q k m := by
  obtain ⟨⟨V1, v1, t1, -⟩, x42, ⟨V43, v43, t43, -⟩, x44, x45, x46, x47, x48, x49, x50, x51, x52, x53, x54, x55, x56, x57, x58, x59, x60⟩ := hX
  obtain ⟨⟨V61, v61, t61, -⟩, ⟨V62, v62, t62⟩, x63, x64, x65, x66, x67, x68, x69, x70, x71, x72, x73, x74, x75, x76, x77, x78, x79, x80, x81, x82, x83⟩ := hY
  have x1 : wsC C 1 10 9 := ⟨V1, v1, t1⟩
  have x43 : wsC C 43 9 3 := ⟨V43, v43, t43⟩
  have x61 : wsC C 61 11 43 := ⟨V61, v61, t61⟩
  have x62 : wsC C 62 12 448 := ⟨V62, v62, wsT_i (Or.inl rfl) (fun j => ⟨_, t62 j⟩)⟩
  intro q k m h
  unfold sk_kn at h
  split at h <;> cases h
  · exact x1
  · exact x42
  · exact x43
  · exact x44
  · exact x45
  · exact x46
  · exact x47
  · exact x48
  · exact x49
  · exact x50
  · exact x51
  · exact x52
  · exact x53
  · exact x54
  · exact x55
  · exact x56
  · exact x57
  · exact x58
  · exact x59
  · exact x60
  · exact x61
  · exact x62
  · exact x63
  · exact x64
  · exact x65
  · exact x66
  · exact x67
  · exact x68
  · exact x69
  · exact x70
  · exact x71
  · exact x72
  · exact x73
  · exact x74
  · exact x75
  · exact x76
  · exact x77
  · exact x78
  · exact x79
  · exact x80
  · exact x81
  · exact x82
  · exact x83
theorem wsX_f {C C' : Nat → Option rs_C} (hX : wsX C) (e : ∀ i, i < 61 → C' i = C i) : wsX C' := by
  obtain ⟨⟨V1, v1, t1⟩, x42, ⟨V43, v43, t43⟩, x44, x45, x46, x47, x48, x49, x50, x51, x52, x53, x54, x55, x56, x57, x58, x59, x60⟩ := hX
  exact ⟨⟨V1, (e 1 (by decide)).trans v1, t1⟩, wsC_f x42 (e 42 (by decide)), ⟨V43, (e 43 (by decide)).trans v43, t43⟩, wsC_f x44 (e 44 (by decide)), wsC_f x45 (e 45 (by decide)), wsC_f x46 (e 46 (by decide)), wsC_f x47 (e 47 (by decide)), wsC_f x48 (e 48 (by decide)), wsC_f x49 (e 49 (by decide)), wsC_f x50 (e 50 (by decide)), wsC_f x51 (e 51 (by decide)), wsC_f x52 (e 52 (by decide)), wsC_f x53 (e 53 (by decide)), wsC_f x54 (e 54 (by decide)), wsC_f x55 (e 55 (by decide)), wsC_f x56 (e 56 (by decide)), wsC_f x57 (e 57 (by decide)), wsC_f x58 (e 58 (by decide)), wsC_f x59 (e 59 (by decide)), wsC_f x60 (e 60 (by decide))⟩
theorem D0_ok : SOk D0 none [] [] := by
  refine ⟨⟨fun r R e => (by cases e), fun i hi => ?_, Nat.zero_le _, fun k t e => (by cases e), fun r q e => (by cases e)⟩, fun X e => (by cases e), Nat.zero_le _, fun k X e => (by cases e), Nat.zero_le _, fun k v e => (by cases e)⟩
  exact ⟨fun q e => (by cases e), fun q e => (by cases e), Nat.zero_le _, Nat.zero_le _, Nat.zero_le _, Nat.zero_le _, fun k p e => (by cases e)⟩
theorem CI_0 {C : Nat → Option rs_C} (hs : cSt C 42 2 D0) (hX : wsX C) : CI C 84 (wsI C) (wsR C) D0 none [] [] (-5) := by
  obtain ⟨⟨V1, v1, t1, u0, u1, u3, u4⟩, x42, ⟨V43, v43, t43, w1⟩, -⟩ := hX
  exact ⟨Nat.le_refl _, ⟨2, wsR_e (o := some 2) v1 u0, cSt_m (fun _ _ => rfl) (by omega) hs⟩, wsR_e (o := none) v1 u1, wsI_e v1 u3, fun k X e => (by cases e), wsI_e v1 u4, wsI_e v43 w1, fun k v e => (by cases e)⟩
theorem RI_0 {C : Nat → Option rs_C} (hY : wsY C) : RI (wsI C) D0 none [] [] (-5) := by
  obtain ⟨⟨V, v61, t61, u2, u4, u5, u9, u33⟩, ⟨U, v62, hU⟩, -⟩ := hY
  have f : ∀ j, ¬ j = 445 → wsI C 62 j = nI 0 := fun j hj => wsI_e v62 (by rw [hU j, if_neg hj]; rfl)
  refine ⟨⟨fun r hr => ⟨f _ (by omega), f _ (by omega)⟩, fun i hi => ⟨⟨f _ (by omega), f _ (by omega)⟩, ⟨f _ (by omega), f _ (by omega)⟩, f _ (by omega), f _ (by omega), f _ (by omega), f _ (by omega), fun k p e => (by cases e)⟩, f _ (by omega), fun k t e => (by cases e), ?_⟩, wsI_e v61 u2, wsI_e v61 u4, fun k X e => (by cases e), wsI_e v61 u5, wsI_e v61 u9, fun k v e => (by cases e), Or.inl (wsI_e v61 u33)⟩
  exact wsI_e v62 (by rw [hU 445, if_pos rfl])
theorem law_run {L : Nat} {xs : Nat → Int32} (hL : L ≤ 3584) : rs_XM 100 x [.ref 0] (rs_w0 L xs) (fun w' v => v = some (.int 1) ∧ w'.2.1 ≤ 600001 ∧ w'.2.2 ≤ 7302250) := by
  rw [em_L_law]
  have k0 : rs_k0 (12, L, fun j => .int (xs j)) (rs_w0 L xs) := ⟨rfl, Nat.le_refl 12, Nat.one_pos⟩
  have b0 : rs_bk (rs_w0 L xs) := by
    intro q c h1 h2
    have h1 : (if q = 0 then some ((12, L, fun j => .int (xs j)) : rs_C) else none) = some c := h1
    by_cases e : q = 0
    · rw [if_pos e] at h1
      cases h1
      cases h2
    · rw [if_neg e] at h1
      cases h1
  have hw : rs_w0 L xs = ((rs_w0 L xs).1, 1, 0) := rfl
  generalize hC0 : (rs_w0 L xs).1 = C0 at hw
  rw [hw] at k0 b0 ⊢
  have k1 := k0_new k0 (c := (10, 9, fun j => defaultValue (rs_ty 10 j)))
  have b1 := bk_new b0 (c := (10, 9, fun j => defaultValue (rs_ty 10 j))) (fun e => absurd e (by decide))
  rw [rw_new] at k1 b1
  show rs_X (39 + 61) x 0 _ _ _ _
  simp only [g_L_law_0, g_L_law_3, g_L_law_4, lk_L_law, XI, Nat.reduceAdd, Nat.reduceEqDiff, not_false_eq_true, nI_T1, nI_T0, true_and, and_true, rw_new]
  refine rs_XM_mono (rs_XM_k (rs_XM_b (ini_X11 (d := 97) (Q := fun w' v => ∃ C' s', w' = (C', 61, s') ∧ v = none ∧ s' ≤ 0 + 9 + 10000 ∧ cSt C' 42 2 D0 ∧ wsX C') _ (vu_eq _ _ _) (fun C' s' a1 a2 a3 => ⟨C', s', rfl, rfl, a1, a2, a3⟩)) b1) k1) ?_
  rintro w v ⟨⟨⟨C', s', rfl, rfl, hs, hst, hX⟩, b2⟩, k2⟩
  have k3 := k0_new k2 (c := (11, 43, fun j => defaultValue (rs_ty 11 j)))
  have b3 := bk_new b2 (c := (11, 43, fun j => defaultValue (rs_ty 11 j))) (fun _ => Or.inl rfl)
  rw [rw_new] at k3 b3
  simp only [g_L_law_7, g_L_law_8, g_L_law_11, g_L_law_12, lk_L_law, XI, Nat.reduceAdd, Nat.reduceEqDiff, not_false_eq_true, nI_T1, nI_T0, true_and, and_true, rw_new]
  refine rs_XM_mono (rs_XM_k (rs_XM_b (ini_X12 (d := 99) (Q := fun w' v => ∃ C2 s2, w' = (C2, 84, s2) ∧ v = none ∧ s2 ≤ s' + 43 + 20000 ∧ (∀ i, i < 61 → C2 i = va_up C' 61 (some (11, 43, fun j => defaultValue (rs_ty 11 j))) i) ∧ wsY C2) _ (vu_eq _ _ _) (fun C2 s2 a1 a2 a3 => ⟨C2, s2, rfl, rfl, a1, a2, a3⟩)) b3) k3) ?_
  rintro w v ⟨⟨⟨C2, s2, rfl, rfl, hs2, hf, hY⟩, b4⟩, k4⟩
  simp only [g_L_law_15, g_L_law_16, g_L_law_17, lk_L_law, XI, Nat.reduceAdd, Nat.reduceEqDiff, not_false_eq_true, nI_T1, nI_T0, true_and, and_true]
  have fr : ∀ i, i < 61 → C2 i = C' i := fun i hi => by rw [hf i hi, vu_ne _ _ (by omega)]
  have hX2 := wsX_f hX fr
  have hst2 : cSt C2 42 2 D0 := cSt_m (fun i hi => fr i (by omega)) (Nat.le_refl _) hst
  have hLI : LI (12, L, fun j => .int (xs j)) 84 40000 (C2, 84, s2) := ⟨C2, 84, s2, wsI C2, wsJ C2, wsR C2, D0, none, [], [], -5, ws_eq _ _ (wsC_kn hX2 hY), Nat.le_refl _, by omega, D0_ok, CI_0 hst2 hX2, RI_0 hY, b4, k4⟩
  exact L_loop (d := 39) hL (fun w h1 h2 => ⟨rfl, h1, h2⟩) 512 0 84 40000 _ (by omega) (Nat.zero_le _) hLI (by decide) (by decide)
