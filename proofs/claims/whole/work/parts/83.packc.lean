/-! the class chooses packs -/
theorem lN_inj {a b : Nat} (ha : a < 9223372036854775808) (hb : b < 9223372036854775808) : lN a = lN b ↔ a = b := by
  refine ⟨fun z => ?_, fun z => by rw [z]⟩
  have e := congrArg (fun x : Int64 => x.toBitVec.toNat) z
  have e : (lN a).toBitVec.toNat = (lN b).toBitVec.toNat := e
  rw [wb_tn (by omega), wb_tn (by omega)] at e
  exact e
def eO (o : Option Nat) : Int64 := match o with
  | none => lN 9223372036854775807
  | some v => lN (67108863 + v)
def oLe (o : Option Nat) (m : Nat) : Prop := ∀ v, o = some v → v ≤ m
theorem isMn_le {pk : List (Nat × Nat)} (h : pkOk pk) {s : Nat} {T : Nat → Nat → Nat → Prop} (hT : ∀ a b c, T a b c → Rch pk s a b c) {o : Option Nat} (ho : isMn pk T o) : oLe o (s * 549206125215000) := by
  intro v e
  subst e
  obtain ⟨⟨a, b, c, h1, h2⟩, _⟩ := ho
  rw [← h2]
  exact wgt_le h (hT a b c h1)
/-- the sums that the ring holds -/
def BI (pk : List (Nat × Nat)) (J : Nat → Nat → Int64) (s : Nat) : Prop := ∀ t, t < s → s ≤ t + 2048 → ∃ o, isMn pk (Rch pk t) o ∧ J 57 (t % 2048) = eO o
section
variable (P : Nat → Option rs_C) (n s : Nat) (I : Nat → Nat → Int32) (J : Nat → Nat → Int64) (R : Nat → Nat → Option Nat) (d : Nat) (Q : rs_H → Option Value → Prop)
theorem s_onePack {pk : List (Nat × Nat)} (h : pkOk pk) {k : Nat} (hk : k < 3) (w : rs_H) : rs_XM d yX6_onePack [.int (nI k), .int (nI (rP pk k))] w Q ↔ Q w (some (.long (lN (wP pk k)))) := by
  have hr := rP_le h k
  rw [em_X6_onePack]
  have e : (nI (rP pk k)).toInt64 <<< ((nI 39).toInt64 &&& 63) + lN 67108864 = lN (rP pk k * 549755813888 + 67108864) := by rw [nI_long (by omega), wb_shl _ (by decide), lN_add]
  simp (disch := omega) only [K_X6_onePack, lk_X6_onePack, XI, Nat.reduceAdd, Nat.reduceEqDiff, not_false_eq_true, nI_T1, nI_T0, true_and, and_true, e]
  unfold wP wT
  by_cases e0 : k = 0
  · subst e0
    rw [if_neg (fun z => z rfl), if_pos rfl, lN_sub (by omega)]
  · rw [if_pos (fun z => e0 ((nI_eq0S (by omega)).mp z)), if_neg e0]
    by_cases e1 : k = 1
    · subst e1
      rw [if_neg (fun z => z rfl), if_pos rfl, lN_sub (by omega)]
    · rw [if_pos (fun z => e1 ((nI_eqS (by omega) (by decide)).mp z)), if_neg e1]
      exact Iff.rfl
theorem mnO_n (x : Option Nat) : mnO x none = x := by cases x <;> rfl
theorem eO_lt {o : Option Nat} (h : oLe o 7000000000000000000) : ∃ v, eO o = lN v ∧ v < 9223372036854775808 ∧ (o = none ↔ v = 9223372036854775807) := by
  cases o with
  | none => exact ⟨_, rfl, by decide, ⟨fun _ => rfl, fun _ => rfl⟩⟩
  | some v =>
    have := h v rfl
    exact ⟨67108863 + v, rfl, by omega, ⟨fun z => (by cases z), fun z => (by omega)⟩⟩
theorem rng {v : Nat} (h : v < 2147483648) : nI v &&& nI 2047 = nI (v % 2048) := by
  rw [bt_and (by omega) (by decide), show (2047 : Nat) = 2 ^ 11 - 1 from rfl, Nat.and_two_pow_sub_one_eq_mod]
theorem s_bestAt_n {x : Int32} (hx : x < 0) : rs_XM d yX6_bestAt [.ref 56, .int x] (sk_w P n s I J R) Q ↔ Q (sk_w P n s I J R) (some (.long (eO none))) := by
  rw [em_X6_bestAt]
  simp (disch := omega) only [g_X6_bestAt_0, g_X6_bestAt_1, g_X6_bestAt_4, g_X6_bestAt_5, g_X6_bestAt_6, g_X6_bestAt_7, lk_X6_bestAt, g_X6_bestAt_28, g_X6_bestAt_31, lk_X6_bestAt, XI, Nat.reduceAdd, Nat.reduceEqDiff, not_false_eq_true, nI_T1, nI_T0, true_and, and_true, WC, WV, WU]
  rw [if_pos hx]
  exact Iff.rfl
theorem s_bestAt_p {v : Nat} (h : v < 2147483648) : rs_XM d yX6_bestAt [.ref 56, .int (nI v)] (sk_w P n s I J R) Q ↔ Q (sk_w P n s I J R) (some (.long (J 57 (v % 2048)))) := by
  have h2 := Nat.mod_lt v (show 0 < 2048 by decide)
  rw [em_X6_bestAt]
  simp (disch := omega) only [K_X6_bestAt, lk_X6_bestAt, XI, Nat.reduceAdd, Nat.reduceEqDiff, not_false_eq_true, nI_T1, nI_T0, true_and, and_true, WC, WV, WU, rng h, nI_lt0S, nI_leS, nI_cl, rs_in_t, if_false]
  rw [if_neg (by omega)]
theorem s_putBest {v : Nat} (h : v < 2147483648) (c : Int64) : rs_XM d yX6_putBest [.ref 56, .int (nI v), .long c] (sk_w P n s I J R) Q ↔ Q (sk_w P n s I (rs_u2 J 57 (v % 2048) c) R) none := by
  have h2 := Nat.mod_lt v (show 0 < 2048 by decide)
  rw [em_X6_putBest]
  simp (disch := omega) only [K_X6_putBest, lk_X6_putBest, XI, Nat.reduceAdd, Nat.reduceEqDiff, not_false_eq_true, nI_T1, nI_T0, true_and, and_true, WC, WV, WU, rng h, nI_lt0S, nI_leS, nI_cl, rs_in_t, if_false]
  rw [if_neg (by omega)]
theorem X6_bw_t {b x : Nat} {g : Ig} (hx : cIg P b x g) (hp : pkOk g.pk) (o : Option Nat) (ho : oLe o 7000000000000000000) {acc : Option Nat} (ha : oLe acc 7000000000000000000) {k : Nat} (hk : k < g.pk.length) (x2 x7 : Int32) (z8 z9 : Option Value)
    (hQ : rs_X (d + 2) yX6_bestWithLastPack 13 [some (.ref 56), some (.ref x), some (.int x2), some (.long (eO (mnO acc (o.map (· + wP g.pk k))))), none, some (.int (nI g.pk.length)), some (.int (nI (k + 1))), some (.int x7), some (.long (eO o)), none] [] (sk_w P n s I J R) Q) :
    rs_X (d + 2) yX6_bestWithLastPack 36 [some (.ref 56), some (.ref x), some (.int x2), some (.long (eO acc)), none, some (.int (nI g.pk.length)), some (.int (nI k)), some (.int x7), z8, z9] [.long (eO o)] (sk_w P n s I J R) Q := by
  have h3 := hp.2.1
  obtain ⟨p, p1, p2, p3, p4, p5, p6⟩ := pk_get hp hk
  obtain ⟨w1, w2⟩ := wP_le hp k
  cases o with
  | none =>
    rw [show mnO acc (Option.map (· + wP g.pk k) none) = acc from mnO_n acc] at hQ
    have e : eO none = lN 9223372036854775807 := rfl
    rw [e] at hQ ⊢
    simp (disch := omega) only [g_X6_bestWithLastPack_36, g_X6_bestWithLastPack_38, g_X6_bestWithLastPack_40, g_X6_bestWithLastPack_43, g_X6_bestWithLastPack_44, lk_X6_bestWithLastPack, g_X6_bestWithLastPack_66, g_X6_bestWithLastPack_69, lk_X6_bestWithLastPack, XI, Nat.reduceAdd, Nat.reduceEqDiff, not_false_eq_true, nI_T1, nI_T0, true_and, and_true, WC, WV, WU, nI_addS]
    rw [if_pos ((lg_cmp_eq _ _).mpr rfl)]
    exact hQ
  | some v =>
    have hv := ho v rfl
    obtain ⟨u, u1, u2, u3⟩ := eO_lt ha
    have e : eO (some v) = lN (67108863 + v) := rfl
    rw [e] at hQ ⊢
    rw [u1]
    simp (disch := omega) only [g_X6_bestWithLastPack_36, g_X6_bestWithLastPack_38, g_X6_bestWithLastPack_40, g_X6_bestWithLastPack_43, g_X6_bestWithLastPack_44, g_X6_bestWithLastPack_47, g_X6_bestWithLastPack_48, g_X6_bestWithLastPack_50, g_X6_bestWithLastPack_52, g_X6_bestWithLastPack_53, g_X6_bestWithLastPack_55, g_X6_bestWithLastPack_58, g_X6_bestWithLastPack_61, g_X6_bestWithLastPack_62, g_X6_bestWithLastPack_65, g_X6_bestWithLastPack_66, g_X6_bestWithLastPack_69, lk_X6_bestWithLastPack, XI, Nat.reduceAdd, Nat.reduceEqDiff, not_false_eq_true, nI_T1, nI_T0, true_and, and_true, WC, WV, WU, k_Ig P n s I J R hx, g_priceAt n s I J R _ _ hx (show k < 3 by omega) p1, ← p3, s_onePack _ _ hp (show k < 3 by omega), lN_add, nI_addS]
    rw [if_neg (fun z => by
      have := (lN_inj (by omega) (by decide)).mp ((lg_cmp_eq _ _).mp z)
      omega)]
    have em : eO (mnO acc (Option.map (· + wP g.pk k) (some v))) = if lN (67108863 + v + wP g.pk k) < lN u then lN (67108863 + v + wP g.pk k) else lN u := by
      cases acc with
      | none =>
        have : u = 9223372036854775807 := u3.mp rfl
        rw [if_pos ((lN_ltS (by omega) (by omega)).mpr (by omega)), Nat.add_assoc]
        rfl
      | some a =>
        have ha2 := ha a rfl
        have hu : u = 67108863 + a := (lN_inj (by omega) (by omega)).mp u1.symm
        show eO (some (if a ≤ v + wP g.pk k then a else v + wP g.pk k)) = _
        by_cases e2 : a ≤ v + wP g.pk k
        · rw [if_pos e2, if_neg (fun z => by
            have := (lN_ltS (by omega) (by omega)).mp z
            omega), hu]
          rfl
        · rw [if_neg e2, if_pos ((lN_ltS (by omega) (by omega)).mpr (by omega)), Nat.add_assoc]
          rfl
    rw [em] at hQ
    exact hQ
theorem X6_bw_l {b x : Nat} {g : Ig} (hx : cIg P b x g) (hp : pkOk g.pk) {t : Nat} (ht1 : 1 ≤ t) (ht : t < 7000) (hB : BI g.pk J t) : ∀ (m k : Nat) (acc : Option Nat) (z7 z8 z9 : Option Value), k + m = g.pk.length → isMn g.pk (TK g.pk t k) acc →
    (∀ o, isMn g.pk (Rch g.pk t) o → Q (sk_w P n s I J R) (some (.long (eO o)))) →
    rs_X (d + 2) yX6_bestWithLastPack 13 [some (.ref 56), some (.ref x), some (.int (nI t)), some (.long (eO acc)), none, some (.int (nI g.pk.length)), some (.int (nI k)), z7, z8, z9] [] (sk_w P n s I J R) Q := by
  have h3 := hp.2.1
  intro m
  induction m with
  | zero =>
    intro k acc z7 z8 z9 hk ha hQ
    have : k = g.pk.length := by omega
    subst this
    rw [g_X6_bestWithLastPack_13]
    simp (disch := omega) only [g_X6_bestWithLastPack_15, g_X6_bestWithLastPack_17, lk_X6_bestWithLastPack, g_X6_bestWithLastPack_72, g_X6_bestWithLastPack_73, lk_X6_bestWithLastPack, XI, Nat.reduceAdd, Nat.reduceEqDiff, not_false_eq_true, nI_T1, nI_T0, true_and, and_true, WC, WV, WU, nI_leS, Nat.le_refl, if_true]
    exact hQ acc (TK_all hp ht1 ha)
  | succ m ih =>
    intro k acc z7 z8 z9 hk ha hQ
    obtain ⟨p, p1, p2, p3, p4, p5, p6⟩ := pk_get hp (show k < g.pk.length by omega)
    have hacc : oLe acc 7000000000000000000 := fun v e => by
      have := isMn_le hp (fun _ _ _ z => z.1) ha v e
      omega
    rw [g_X6_bestWithLastPack_13]
    simp (disch := omega) only [g_X6_bestWithLastPack_15, g_X6_bestWithLastPack_17, g_X6_bestWithLastPack_20, g_X6_bestWithLastPack_21, g_X6_bestWithLastPack_22, g_X6_bestWithLastPack_24, g_X6_bestWithLastPack_27, lk_X6_bestWithLastPack, XI, Nat.reduceAdd, Nat.reduceEqDiff, not_false_eq_true, nI_T1, nI_T0, true_and, and_true, WC, WV, WU, nI_leS, k_Ig P n s I J R hx, g_sizeAt n s I J R _ _ hx (show k < 3 by omega) p1]
    rw [if_neg (by omega)]
    by_cases ez : t < p.1
    · have e1 := pk_sneg (a := t) (b := p.1) (by omega) ez
      have hn := TK_s ha (isMn_l (pk := g.pk) (s := t) (k := k) (by rw [p2]; exact ez) (by omega))
      rw [mnO_n] at hn
      simp (disch := omega) only [g_X6_bestWithLastPack_28, g_X6_bestWithLastPack_30, g_X6_bestWithLastPack_31, g_X6_bestWithLastPack_33, lk_X6_bestWithLastPack, XI, Nat.reduceAdd, Nat.reduceEqDiff, not_false_eq_true, nI_T1, nI_T0, true_and, and_true, WC, WV, WU, s_bestAt_n P n s I J R _ _ e1]
      exact X6_bw_t P n s I J R d Q hx hp none (fun v e => by cases e) hacc (by omega) _ _ _ _ (by
        show rs_X _ _ _ [_, _, _, some (.long (eO (mnO acc none))), _, _, _, _, _, _] _ _ _
        rw [mnO_n]
        exact ih (k + 1) acc _ _ _ (by omega) hn hQ)
    · obtain ⟨o, o1, o2⟩ := hB (t - p.1) (by omega) (by omega)
      have hn := TK_s ha (isMn_p (pk := g.pk) (s := t) (k := k) (by omega) (by omega) (by rw [p2]; omega) (by rw [p2]; exact o1))
      have hol : oLe o 7000000000000000000 := fun v e => by
        have := isMn_le hp (fun _ _ _ z => z) o1 v e
        omega
      simp (disch := omega) only [g_X6_bestWithLastPack_28, g_X6_bestWithLastPack_30, g_X6_bestWithLastPack_31, g_X6_bestWithLastPack_33, lk_X6_bestWithLastPack, XI, Nat.reduceAdd, Nat.reduceEqDiff, not_false_eq_true, nI_T1, nI_T0, true_and, and_true, WC, WV, WU, nI_subS, s_bestAt_p P n s I J R _ _ (show t - p.1 < 2147483648 by omega), o2]
      exact X6_bw_t P n s I J R d Q hx hp o hol hacc (by omega) _ _ _ _ (ih (k + 1) _ _ _ _ (by omega) hn hQ)
theorem s_bw {b x : Nat} {g : Ig} (hx : cIg P b x g) (hp : pkOk g.pk) {t : Nat} (ht1 : 1 ≤ t) (ht : t < 7000) (hB : BI g.pk J t) (hQ : ∀ o, isMn g.pk (Rch g.pk t) o → Q (sk_w P n s I J R) (some (.long (eO o)))) : rs_XM (d + 2) yX6_bestWithLastPack [.ref 56, .ref x, .int (nI t)] (sk_w P n s I J R) Q := by
  rw [em_X6_bestWithLastPack]
  simp (disch := omega) only [g_X6_bestWithLastPack_0, g_X6_bestWithLastPack_3, g_X6_bestWithLastPack_4, g_X6_bestWithLastPack_5, g_X6_bestWithLastPack_8, g_X6_bestWithLastPack_10, g_X6_bestWithLastPack_11, lk_X6_bestWithLastPack, XI, Nat.reduceAdd, Nat.reduceEqDiff, not_false_eq_true, nI_T1, nI_T0, true_and, and_true, WC, WV, WU, k_Ig P n s I J R hx, g_packCount n s I J R _ _ hx]
  exact X6_bw_l P n s I J R d Q hx hp ht1 ht hB g.pk.length 0 none none none none (Nat.zero_add _) (TK_0 _ _) hQ
theorem X6_ch_l {b x : Nat} {g : Ig} (hx : cIg P b x g) (hp : pkOk g.pk) {l B a0 b0 c0 : Nat} (hl : 1 ≤ l) (hl5 : l ≤ 5000) (hb : Bst g.pk l B a0 b0 c0) (hQ : ∀ J', (∀ q j, ¬ q = 57 → J' q j = J q j) → Q (sk_w P n s (rs_u2 (rs_u2 I 56 2 (nI B)) 56 3 (nI (B - l))) (rs_u2 J' 56 1 (lN (67108863 + wgt g.pk a0 b0 c0))) R) none) : ∀ (m t : Nat) (J1 : Nat → Nat → Int64) (z4 z5 : Option Value), t + m = 7000 → t ≤ B → (∀ q j, ¬ q = 57 → J1 q j = J q j) → BI g.pk J1 t →
    rs_X (d + 3) yX6_choose 2 [some (.ref 56), some (.ref x), some (.int (nI l)), some (.int (nI t)), z4, z5] [] (sk_w P n s I J1 R) Q := by
  obtain ⟨b1, b2, b3, b4, b5⟩ := id hb
  intro m
  induction m with
  | zero =>
    intro t J1 z4 z5 ht htB
    omega
  | succ m ih =>
    intro t J1 z4 z5 ht htB hJ hB
    have go : ∀ o, isMn g.pk (Rch g.pk t) o → rs_X (d + 3) yX6_choose 25 [some (.ref 56), some (.ref x), some (.int (nI l)), some (.int (nI t)), z4, z5] [.long (eO o)] (sk_w P n s I J1 R) Q := by
      intro o ho
      simp (disch := omega) only [g_X6_choose_25, g_X6_choose_27, g_X6_choose_28, g_X6_choose_29, g_X6_choose_31, g_X6_choose_34, g_X6_choose_35, g_X6_choose_36, lk_X6_choose, XI, Nat.reduceAdd, Nat.reduceEqDiff, not_false_eq_true, nI_T1, nI_T0, true_and, and_true, WC, WV, WU, s_putBest P n s I J1 R _ _ (show t < 2147483648 by omega), nI_ltS]
      have hol : oLe o 7000000000000000000 := fun v e => by
        have := isMn_le hp (fun _ _ _ z => z) ho v e
        omega
      have hJ2 : ∀ q j, ¬ q = 57 → rs_u2 J1 57 (t % 2048) (eO o) q j = J q j := fun q j e => by
        rw [rs_u2_ne _ _ (fun z => e z.1)]
        exact hJ q j e
      have hB2 : BI g.pk (rs_u2 J1 57 (t % 2048) (eO o)) (t + 1) := by
        intro t2 h1 h2
        by_cases e : t2 = t
        · subst e
          exact ⟨o, ho, rs_u2_eq _ _ _ _⟩
        · obtain ⟨o2, g1, g2⟩ := hB t2 (by omega) (by omega)
          refine ⟨o2, g1, ?_⟩
          rw [rs_u2_ne _ _ (by omega)]
          exact g2
      have nxt : t < B → rs_X (d + 3) yX6_choose 67 [some (.ref 56), some (.ref x), some (.int (nI l)), some (.int (nI t)), some (.long (eO o)), none] [] (sk_w P n s I (rs_u2 J1 57 (t % 2048) (eO o)) R) Q := fun hlt => by
        simp (disch := omega) only [g_X6_choose_67, g_X6_choose_70, lk_X6_choose, XI, Nat.reduceAdd, Nat.reduceEqDiff, not_false_eq_true, nI_T1, nI_T0, true_and, and_true, WC, WV, WU, nI_addS]
        exact ih (t + 1) _ _ _ (by omega) (by omega) hJ2 hB2
      by_cases el : t < l
      · rw [if_pos el]
        exact nxt (by omega)
      · rw [if_neg el]
        cases o with
        | none =>
          have e : eO none = lN 9223372036854775807 := rfl
          rw [e] at nxt ⊢
          simp (disch := omega) only [g_X6_choose_39, g_X6_choose_41, g_X6_choose_44, g_X6_choose_45, lk_X6_choose, XI, Nat.reduceAdd, Nat.reduceEqDiff, not_false_eq_true, nI_T1, nI_T0, true_and, and_true, WC, WV, WU]
          rw [if_pos ((lg_cmp_eq _ _).mpr rfl)]
          refine nxt ?_
          rcases Nat.lt_or_ge t B with q | q
          · exact q
          · have : t = B := by omega
            subst this
            exact absurd b4 (ho a0 b0 c0)
        | some v =>
          obtain ⟨⟨a1, b1', c1, r1, r2⟩, r3⟩ := id ho
          have hv := hol v rfl
          have e : eO (some v) = lN (67108863 + v) := rfl
          have etB : t = B := by
            rcases Nat.lt_or_ge t B with q | q
            · exact absurd r1 (b3 t (by omega) q _ _ _)
            · omega
          have ev : v = wgt g.pk a0 b0 c0 := by
            subst etB
            have q1 := r3 a0 b0 c0 b4
            have q2 := b5 a1 b1' c1 r1
            omega
          have ne : ¬ lg_cmp (lN (67108863 + v)) (lN 9223372036854775807) = 0 := fun z => by
            have := (lN_inj (by omega) (by decide)).mp ((lg_cmp_eq _ _).mp z)
            omega
          have hQ2 := hQ _ hJ2
          rw [e] at hQ2 ⊢
          simp (disch := omega) only [g_X6_choose_39, g_X6_choose_41, g_X6_choose_44, g_X6_choose_45, g_X6_choose_48, g_X6_choose_49, g_X6_choose_51, g_X6_choose_54, g_X6_choose_55, g_X6_choose_56, g_X6_choose_59, g_X6_choose_60, g_X6_choose_61, g_X6_choose_62, g_X6_choose_63, g_X6_choose_66, lk_X6_choose, XI, Nat.reduceAdd, Nat.reduceEqDiff, not_false_eq_true, nI_T1, nI_T0, true_and, and_true, WC, WV, WU, ne, if_false, nI_subS]
          rw [etB, ev]
          rw [etB, ev] at hQ2
          exact hQ2
    rw [g_X6_choose_2]
    by_cases e0 : t = 0
    · subst e0
      have := go (some 0) (isMn_0 hp)
      simp (disch := omega) only [g_X6_choose_3, g_X6_choose_6, g_X6_choose_9, g_X6_choose_10, g_X6_choose_13, g_X6_choose_16, lk_X6_choose, XI, Nat.reduceAdd, Nat.reduceEqDiff, not_false_eq_true, nI_T1, nI_T0, true_and, and_true, WC, WV, WU, nI_leS, nI_00, not_true_eq_false, if_false]
      rw [if_neg (by omega)]
      exact this
    · simp (disch := omega) only [g_X6_choose_3, g_X6_choose_6, g_X6_choose_9, g_X6_choose_10, g_X6_choose_13, g_X6_choose_16, g_X6_choose_19, g_X6_choose_20, g_X6_choose_21, g_X6_choose_22, lk_X6_choose, XI, Nat.reduceAdd, Nat.reduceEqDiff, not_false_eq_true, nI_T1, nI_T0, true_and, and_true, WC, WV, WU, nI_leS, nI_eq0S, e0, not_false_eq_true, if_true]
      rw [if_neg (by omega)]
      exact s_bw P n s I J1 R (d + 0) _ hx hp (by omega) (by omega) hB go
theorem s_choose {b x : Nat} {g : Ig} (hx : cIg P b x g) (hp : pkOk g.pk) {l B a0 b0 c0 : Nat} (hl : 1 ≤ l) (hl5 : l ≤ 5000) (hb : Bst g.pk l B a0 b0 c0) (hQ : ∀ J', (∀ q j, ¬ q = 57 → J' q j = J q j) → Q (sk_w P n s (rs_u2 (rs_u2 I 56 2 (nI B)) 56 3 (nI (B - l))) (rs_u2 J' 56 1 (lN (67108863 + wgt g.pk a0 b0 c0))) R) none) : rs_XM (d + 3) yX6_choose [.ref 56, .ref x, .int (nI l)] (sk_w P n s I J R) Q := by
  rw [em_X6_choose]
  simp (disch := omega) only [g_X6_choose_0, g_X6_choose_1, lk_X6_choose, XI, Nat.reduceAdd, Nat.reduceEqDiff, not_false_eq_true, nI_T1, nI_T0, true_and, and_true, WC, WV, WU]
  exact X6_ch_l P n s I J R d Q hx hp hl hl5 hb hQ 7000 0 J none none rfl (Nat.zero_le _) (fun _ _ _ => rfl) (fun t h => absurd h (Nat.not_lt_zero t))
end
