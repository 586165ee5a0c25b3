/-! the reference chooses: all counts that it looks at -/
theorem cd_f0 {B zo zb e x f v : Nat} (h : isCd B zo 0 zb e x f v) : f = 0 := by
  obtain ⟨_, _, ⟨⟨g1, g2⟩, g3⟩, _⟩ := h
  rw [Nat.mul_zero] at g2
  have := g3 0 ⟨by rw [Nat.mul_zero]; exact Nat.zero_le _, by rw [Nat.mul_zero]; exact g2⟩
  omega
theorem iO_n : iO none = -1 := rfl
theorem iO_s (k : Nat) : iO (some k) = nI k := rfl
theorem zO_le {pk : List (Nat × Nat)} (h : pkOk pk) {o : Option Nat} (ho : ∀ k, o = some k → k < pk.length) : zO pk o ≤ 2000 := by
  cases o with
  | none => exact Nat.zero_le _
  | some k => exact (zP_1 h (ho k rfl)).2
/-- the weight of what is looked at -/
def wC (pk : List (Nat × Nat)) (b : Nat) (o t : Option Nat) (x f v : Nat) : Nat := x * wO pk o + f * wO pk t + v * wP pk b
def cdP (pk : List (Nat × Nat)) (B b : Nat) (o t : Option Nat) (x f v : Nat) : Prop := isCd B (zO pk o) (zO pk t) (zP pk b) (eO2 pk b o) x f v
theorem cdP_r {pk : List (Nat × Nat)} {B b : Nat} {o t : Option Nat} (hc : Cs pk b o t) {x f v : Nat} (h : cdP pk B b o t x f v) : Rch pk B (trC b o t x f v 0) (trC b o t x f v 1) (trC b o t x f v 2) ∧ wgt pk (trC b o t x f v 0) (trC b o t x f v 1) (trC b o t x f v 2) = wC pk b o t x f v := by
  refine Cs_dn hc (fun e => ?_) (fun e => ?_) h.2.2.2
  · subst e
    have : x < 1 := h.1
    omega
  · subst e
    exact cd_f0 h
/-- what is kept so far -/
def kpt (pk : List (Nat × Nat)) (B b : Nat) (o t : Option Nat) (J : Nat → Nat → Int64) (fl x : Nat) : Prop := (fl = 1 ∧ ∀ x' f v, x' < x → ¬ cdP pk B b o t x' f v) ∨ (fl = 0 ∧ ∃ x0 f0 v0, cdP pk B b o t x0 f0 v0 ∧ mC J 79 (trC b o t x0 f0 v0 0) (trC b o t x0 f0 v0 1) (trC b o t x0 f0 v0 2) ∧ ∀ x' f v, x' < x → cdP pk B b o t x' f v → wC pk b o t x0 f0 v0 ≤ wC pk b o t x' f v)
theorem cnt_tr (b : Nat) (o t : Option Nat) (x f v : Nat) {k : Nat} (hk : k < 3) : cnt (trC b o t x f v 0) (trC b o t x f v 1) (trC b o t x f v 2) k = trC b o t x f v k := by
  have : k = 0 ∨ k = 1 ∨ k = 2 := by omega
  rcases this with e | e | e <;> subst e <;> rfl
theorem kpt_e {pk : List (Nat × Nat)} (hp : pkOk pk) {B b : Nat} {o t : Option Nat} (hc : Cs pk b o t) (hbest : ∀ k, k < pk.length → wP pk b * zP pk k ≤ wP pk k * zP pk b) {l a0 b0 c0 : Nat} (hB8 : B ≤ 8191) (hb : Bst pk l B a0 b0 c0) {J : Nat → Nat → Int64} {fl : Nat} (hk : kpt pk B b o t J fl (eO2 pk b o)) : mC J 79 a0 b0 c0 := by
  obtain ⟨q1, q2, q3⟩ := Cs_b hc
  have zb1 := (zP_1 hp q1).1
  obtain ⟨x, f, v, r1, r2, r3⟩ := Cs_up hc hb.2.2.2.1
  have ratio : ∀ p : Option Nat, (∀ k, p = some k → k < pk.length) → zO pk p * wP pk b ≤ zP pk b * wO pk p := fun p hq => by
    cases p with
    | none => show 0 * _ ≤ _; rw [Nat.zero_mul]; exact Nat.zero_le _
    | some k =>
      have := hbest k (hq k rfl)
      rw [Nat.mul_comm, Nat.mul_comm (wP pk k)] at this
      exact this
  have he : eO2 pk b o = zP pk b ∨ (x = 0 ∧ 1 ≤ eO2 pk b o) := by
    cases o with
    | none => exact Or.inr ⟨r1 rfl, Nat.le_refl 1⟩
    | some k => exact Or.inl rfl
  obtain ⟨x1, f1, v1, g1, g2⟩ := cd_all zb1 (ratio o q2) (ratio t q3) x x f v (Nat.le_refl x) he r2
  have g1 : cdP pk B b o t x1 f1 v1 := g1
  have g2 : wC pk b o t x1 f1 v1 ≤ wC pk b o t x f v := g2
  rcases hk with ⟨_, k2⟩ | ⟨_, x0, f0, v0, k1, k2, k3⟩
  · exact absurd g1 (k2 x1 f1 v1 g1.1)
  · have w1 := k3 x1 f1 v1 g1.1 g1
    obtain ⟨d1, d2⟩ := cdP_r hc k1
    have w2 := hb.2.2.2.2 _ _ _ d1
    have w3 : wgt pk a0 b0 c0 = wC pk b o t x f v := r3
    obtain ⟨i1, i2, i3⟩ := wgt_inj hp hB8 d1 hb.2.2.2.1 (by omega)
    rw [i1, i2, i3] at k2
    exact k2
section
variable (P : Nat → Option rs_C) (n s : Nat) (R : Nat → Nat → Option Nat) (d : Nat) (Q : rs_H → Option Value → Prop)
theorem X12_ch_l {i : Nat} (hi : i < 12) {pk : List (Nat × Nat)} (hp : pkOk pk) {b : Nat} {o t : Option Nat} (hc : Cs pk b o t) {B : Nat} (hB : B ≤ 8191) (I0 : Nat → Nat → Int32) (J0 : Nat → Nat → Int64) (hI : mPk I0 i pk) (hJB : J0 61 28 = lN B)
    (hQ : ∀ I' J', fX I0 I' → fT J0 J' → rInv (I' 61 32) (I' 61 33) (I' 61 34) → (∃ fl, kpt pk B b o t J' fl (eO2 pk b o)) → Q (sk_w P n s I' J' R) none) :
    ∀ (m x fl : Nat) (I : Nat → Nat → Int32) (J : Nat → Nat → Int64) (z9 z10 z11 z12 z13 : Option Value), x + m = eO2 pk b o → fX I0 I → fT J0 J → rInv (I 61 32) (I 61 33) (I 61 34) → kpt pk B b o t J fl x → rs_X (d + 4) yX12_choose 75 [some (.ref 61), some (.int (nI i)), some (.int (nI b)), some (.int (iO o)), some (.int (iO t)), some (.int (nI (zP pk b))), some (.int (nI fl)), some (.int (nI (eO2 pk b o))), some (.int (nI x)), z9, z10, z11, z12, z13] [] (sk_w P n s I J R) Q := by
  obtain ⟨b1, b2, b3⟩ := Cs_b hc
  obtain ⟨zb1, zb2⟩ := zP_1 hp b1
  have h3 := hp.2.1
  have hzo := zO_le hp b2
  have hzt := zO_le hp b3
  have hee : eO2 pk b o ≤ 2000 := by
    cases o with
    | none => exact show 1 ≤ 2000 by decide
    | some k => exact zb2
  intro m
  induction m with
  | zero =>
    intro x fl I J z9 z10 z11 z12 z13 hm fi fj hR hk
    have : x = eO2 pk b o := by omega
    subst this
    rw [g_X12_choose_75]
    simp (disch := omega) only [g_X12_choose_77, g_X12_choose_79, lk_X12_choose, g_X12_choose_282, lk_X12_choose, XI, Nat.reduceAdd, Nat.reduceEqDiff, not_false_eq_true, nI_T1, nI_T0, true_and, and_true, WC, WV, WU, nI_leS, Nat.le_refl, if_true]
    exact hQ I J fi fj hR ⟨fl, hk⟩
  | succ m ih =>
    intro x fl I J z9 z10 z11 z12 z13 hm fi fj hR hk
    have eB : J 61 28 = lN B := by rw [fj 61 28 (by decide) (by decide)]; exact hJB
    have hxz : x * zO pk o ≤ 2000 * 2000 := Nat.mul_le_mul (by omega) hzo
    have hIk := mPk_X fi hI
    have skip : ∀ I' J' z9 z10 z11 z12 z13, fX I0 I' → fT J0 J' → rInv (I' 61 32) (I' 61 33) (I' 61 34) → kpt pk B b o t J' fl (x + 1) → rs_X (d + 4) yX12_choose 276 [some (.ref 61), some (.int (nI i)), some (.int (nI b)), some (.int (iO o)), some (.int (iO t)), some (.int (nI (zP pk b))), some (.int (nI fl)), some (.int (nI (eO2 pk b o))), some (.int (nI x)), z9, z10, z11, z12, z13] [] (sk_w P n s I' J' R) Q := fun I' J' z9 z10 z11 z12 z13 f1 f2 f3 f4 => by
      simp (disch := omega) only [g_X12_choose_276, g_X12_choose_279, lk_X12_choose, XI, Nat.reduceAdd, Nat.reduceEqDiff, not_false_eq_true, nI_T1, nI_T0, true_and, and_true, WC, WV, WU, nI_addS]
      exact ih (x + 1) fl I' J' _ _ _ _ _ (by omega) f1 f2 f3 f4
    have kskip : (∀ f v, ¬ cdP pk B b o t x f v) → kpt pk B b o t J fl (x + 1) := fun hno => by
      rcases hk with ⟨k1, k2⟩ | ⟨k1, x0, f0, v0, k2, k3, k4⟩
      · refine Or.inl ⟨k1, fun x' f v hx => ?_⟩
        by_cases e : x' = x
        · rw [e]; exact hno f v
        · exact k2 x' f v (by omega)
      · refine Or.inr ⟨k1, x0, f0, v0, k2, k3, fun x' f v hx hcd => ?_⟩
        by_cases e : x' = x
        · rw [e] at hcd; exact absurd hcd (hno f v)
        · exact k4 x' f v (by omega) hcd
    have few : (rs_XM (d + 3) yX12_fewest [.ref 61, .long (lN B - lN (x * zO pk o)), .int (nI (zO pk t)), .int (nI (zP pk b))] (sk_w P n s I J R) (fun w' v => rs_X (d + 4) yX12_choose 132 [some (.ref 61), some (.int (nI i)), some (.int (nI b)), some (.int (iO o)), some (.int (iO t)), some (.int (nI (zP pk b))), some (.int (nI fl)), some (.int (nI (eO2 pk b o))), some (.int (nI x)), some (.long (lN B - lN (x * zO pk o))), none, z11, z12, z13] (rs_push v []) w' Q)) := by
      by_cases hle : x * zO pk o ≤ B
      · rw [lN_sub hle]
        refine s_fewest P n s J R (d + 1) _ I (show B - x * zO pk o < 1000000 by omega) hzt zb1 zb2 hR (fun I' f f1 r1 hf => ?_)
        have nlt : ¬ lg_cmp (lN (B - x * zO pk o)) (lN 0) < 0 := fun y => by
          have := (pk_lLT (a := B - x * zO pk o) (b := 0) (by omega) (by decide)).mp ((lg_cmp_lt _ _).mp y)
          omega
        have f2 : fX I0 I' := fX_t fi f1
        cases f with
        | none =>
          have e1 : lg_cmp (-1) (lN 0) < 0 := by decide
          have e2 : oL none = -1 := rfl
          rw [e2]
          simp (disch := omega) only [g_X12_choose_132, g_X12_choose_134, g_X12_choose_136, g_X12_choose_137, g_X12_choose_138, g_X12_choose_141, g_X12_choose_143, g_X12_choose_144, g_X12_choose_145, lk_X12_choose, XI, Nat.reduceAdd, Nat.reduceEqDiff, not_false_eq_true, nI_T1, nI_T0, true_and, and_true, WC, WV, WU, nlt, e1, if_true, if_false]
          exact skip I' J _ _ _ _ _ f2 fj r1 (kskip (fun f v hcd => by have := isFw_u hf hcd.2.2.1; cases this))
        | some fv =>
          have e2 : oL (some fv) = lN fv := rfl
          have hfv : fv ≤ 8191 := by
            by_cases q : zO pk t = 0
            · obtain ⟨⟨g1, g2⟩, g3⟩ := hf
              rw [q, Nat.mul_zero] at g2
              have := g3 0 ⟨by rw [Nat.zero_mul]; exact Nat.zero_le _, by rw [Nat.zero_mul]; exact g2⟩
              omega
            · have g1 := hf.1.1
              have : fv ≤ fv * zO pk t := Nat.le_mul_of_pos_right fv (Nat.pos_of_ne_zero q)
              omega
          have nl2 : ¬ lg_cmp (lN fv) (lN 0) < 0 := fun y => by
            have := (pk_lLT (a := fv) (b := 0) (by omega) (by decide)).mp ((lg_cmp_lt _ _).mp y)
            omega
          have hcd : cdP pk B b o t x fv ((B - x * zO pk o - fv * zO pk t) / zP pk b) := cd_of zb1 (by omega) hle hf
          generalize (B - x * zO pk o - fv * zO pk t) / zP pk b = v at hcd
          have heq : x * zO pk o + fv * zO pk t + v * zP pk b = B := hcd.2.2.2
          rw [e2]
          simp (disch := omega) only [g_X12_choose_132, g_X12_choose_134, g_X12_choose_136, g_X12_choose_137, g_X12_choose_138, g_X12_choose_141, g_X12_choose_143, g_X12_choose_144, g_X12_choose_145, g_X12_choose_148, g_X12_choose_149, lk_X12_choose, XI, Nat.reduceAdd, Nat.reduceEqDiff, not_false_eq_true, nI_T1, nI_T0, true_and, and_true, WC, WV, WU, nlt, nl2, if_false]
          rw [show B - x * zO pk o = fv * zO pk t + v * zP pk b by omega]
          have hIk' := mPk_X f2 hI
          have uniq : ∀ f' v', cdP pk B b o t x f' v' → f' = fv ∧ v' = v := fun f' v' h' => by
            have a1 := Option.some.inj (isFw_u h'.2.2.1 hf)
            subst a1
            have a2 : x * zO pk o + f' * zO pk t + v' * zP pk b = B := h'.2.2.2
            exact ⟨rfl, Nat.eq_of_mul_eq_mul_right zb1 (by omega)⟩
          refine X12_ch_t P n s R d Q I' hi hp hIk' hc (by omega) (by omega) (by omega) _ _ J (fun J1 hj1 ht1 => ?_) 3 0 J rfl (fun _ _ _ => rfl) (fun j hj => absurd hj (Nat.not_lt_zero j))
          have hC1 : mC J1 80 (trC b o t x fv v 0) (trC b o t x fv v 1) (trC b o t x fv v 2) := fun k hk3 => by rw [cnt_tr _ _ _ _ _ _ hk3]; exact ht1 k hk3
          have fj1 : fT J0 J1 := fun q j a1 a2 => by rw [hj1 q j a2]; exact fj q j a1 a2
          obtain ⟨d1, d2⟩ := cdP_r hc hcd
          have keep : kpt pk B b o t J fl x → (∀ x' f' v', x' < x → cdP pk B b o t x' f' v' → wC pk b o t x fv v ≤ wC pk b o t x' f' v') → rs_X (d + 4) yX12_choose 244 [some (.ref 61), some (.int (nI i)), some (.int (nI b)), some (.int (iO o)), some (.int (iO t)), some (.int (nI (zP pk b))), some (.int (nI fl)), some (.int (nI (eO2 pk b o))), some (.int (nI x)), some (.long (lN (fv * zO pk t + v * zP pk b))), none, some (.long (lN fv)), none, some (.int (nI 3))] [] (sk_w P n s I' J1 R) Q := fun _ hmin => by
            simp (disch := omega) only [g_X12_choose_244, g_X12_choose_245, lk_X12_choose, XI, Nat.reduceAdd, Nat.reduceEqDiff, not_false_eq_true, nI_T1, nI_T0, true_and, and_true, WC, WV, WU]
            refine X12_ch_k P n s R (d + 4) Q I' _ _ _ _ _ _ _ _ _ J1 hC1 (fun J2 hj2 ht2 => ?_) 3 0 J1 rfl (fun _ _ _ => rfl) (fun j hj => absurd hj (Nat.not_lt_zero j))
            simp (disch := omega) only [g_X12_choose_273, g_X12_choose_274, g_X12_choose_276, g_X12_choose_279, lk_X12_choose, XI, Nat.reduceAdd, Nat.reduceEqDiff, not_false_eq_true, nI_T1, nI_T0, true_and, and_true, WC, WV, WU, nI_addS]
            refine ih (x + 1) 0 I' J2 _ _ _ _ _ (by omega) f2 (fun q j a1 a2 => by rw [hj2 q j a1]; exact fj1 q j a1 a2) r1 (Or.inr ⟨rfl, x, fv, v, hcd, ht2, fun x' f' v' hx h' => ?_⟩)
            by_cases e : x' = x
            · subst e
              obtain ⟨u1, u2⟩ := uniq f' v' h'
              rw [u1, u2]
              exact Nat.le_refl _
            · exact hmin x' f' v' (by omega) h'
          rcases id hk with ⟨k1, k2⟩ | ⟨k1, x0, f0, v0, k2, k3, k4⟩
          · subst k1
            simp (disch := omega) only [g_X12_choose_231, g_X12_choose_233, lk_X12_choose, XI, Nat.reduceAdd, Nat.reduceEqDiff, not_false_eq_true, nI_T1, nI_T0, true_and, and_true, WC, WV, WU, nI_10f, not_false_eq_true, if_true]
            exact keep hk (fun x' f' v' hx h' => absurd h' (k2 x' f' v' hx))
          · subst k1
            obtain ⟨d3, d4⟩ := cdP_r hc k2
            have hC0 : mC J1 79 (trC b o t x0 f0 v0 0) (trC b o t x0 f0 v0 1) (trC b o t x0 f0 v0 2) := fun k hk3 => by rw [hj1 79 k (by decide)]; exact k3 k hk3
            simp (disch := omega) only [g_X12_choose_231, g_X12_choose_233, g_X12_choose_236, g_X12_choose_237, g_X12_choose_238, g_X12_choose_241, lk_X12_choose, XI, Nat.reduceAdd, Nat.reduceEqDiff, not_false_eq_true, nI_T1, nI_T0, true_and, and_true, WC, WV, WU, rs_b_0, rs_b_ok2, true_or, or_true, Classical.not_not, not_true_eq_false, if_true, if_false, reduceCtorEq, nI_00, not_true_eq_false, if_false, s_isBetter P n s I' J1 R _ _ hi hp hIk' hB d3 d1 hC0 hC1]
            rw [d2, d4]
            by_cases hlt : wC pk b o t x fv v < wC pk b o t x0 f0 v0
            · have g := keep hk (fun x' f' v' hx h' => by have := k4 x' f' v' hx h'; omega)
              simp only [hlt, not_true_eq_false, if_false]
              exact g
            · simp (disch := omega) only [hlt, not_false_eq_true, if_true, g_X12_choose_273, g_X12_choose_274, g_X12_choose_276, g_X12_choose_279, lk_X12_choose, XI, Nat.reduceAdd, Nat.reduceEqDiff, not_false_eq_true, nI_T1, nI_T0, true_and, and_true, WC, WV, WU, nI_addS]
              refine ih (x + 1) 0 I' J1 _ _ _ _ _ (by omega) f2 fj1 r1 (Or.inr ⟨rfl, x0, f0, v0, k2, hC0, fun x' f' v' hx h' => ?_⟩)
              by_cases e : x' = x
              · subst e
                obtain ⟨u1, u2⟩ := uniq f' v' h'
                rw [u1, u2]
                omega
              · exact k4 x' f' v' (by omega) h'
      · have hlt : lg_cmp (lN B - lN (x * zO pk o)) (lN 0) < 0 := (lS_lt (by omega) (by omega)).mpr (by omega)
        rw [s_fewest_n P n s J R (d + 3) _ I hlt]
        simp (disch := omega) only [g_X12_choose_132, g_X12_choose_134, g_X12_choose_136, g_X12_choose_137, g_X12_choose_138, lk_X12_choose, XI, Nat.reduceAdd, Nat.reduceEqDiff, not_false_eq_true, nI_T1, nI_T0, true_and, and_true, WC, WV, WU, hlt, if_true]
        exact skip I J _ _ _ _ _ fi fj hR (kskip (fun f v hcd => hle hcd.2.1))
    rw [g_X12_choose_75]
    cases o with
    | none =>
      have ex : x = 0 := by
        have : x + (m + 1) = 1 := hm
        omega
      rw [show zO pk none = 0 from rfl, Nat.mul_zero, iO_n] at few
      rw [iO_n]
      cases t with
      | none =>
        rw [show zO pk none = 0 from rfl, iO_n] at few
        rw [iO_n]
        simp (disch := omega) only [g_X12_choose_77, g_X12_choose_79, g_X12_choose_82, g_X12_choose_83, g_X12_choose_86, g_X12_choose_87, g_X12_choose_90, g_X12_choose_91, g_X12_choose_94, g_X12_choose_96, g_X12_choose_97, g_X12_choose_98, g_X12_choose_99, g_X12_choose_100, g_X12_choose_103, g_X12_choose_104, g_X12_choose_105, g_X12_choose_106, g_X12_choose_108, g_X12_choose_109, g_X12_choose_111, g_X12_choose_113, g_X12_choose_116, g_X12_choose_117, g_X12_choose_120, g_X12_choose_121, g_X12_choose_122, g_X12_choose_124, g_X12_choose_127, g_X12_choose_129, lk_X12_choose, XI, Nat.reduceAdd, Nat.reduceEqDiff, not_false_eq_true, nI_T1, nI_T0, true_and, and_true, WC, WV, WU, nI_leS, m1_ge, if_false, eB]
        rw [if_neg (by omega)]
        exact few
      | some j =>
        have hj := b3 j rfl
        have es := (hIk.2 j hj).1
        rw [show zO pk (some j) = zP pk j from rfl, iO_s] at few
        rw [iO_s]
        simp (disch := omega) only [g_X12_choose_77, g_X12_choose_79, g_X12_choose_82, g_X12_choose_83, g_X12_choose_86, g_X12_choose_87, g_X12_choose_90, g_X12_choose_91, g_X12_choose_94, g_X12_choose_96, g_X12_choose_97, g_X12_choose_98, g_X12_choose_99, g_X12_choose_100, g_X12_choose_103, g_X12_choose_104, g_X12_choose_105, g_X12_choose_106, g_X12_choose_108, g_X12_choose_109, g_X12_choose_111, g_X12_choose_113, g_X12_choose_116, g_X12_choose_117, g_X12_choose_120, g_X12_choose_121, g_X12_choose_122, g_X12_choose_124, g_X12_choose_127, g_X12_choose_129, lk_X12_choose, XI, Nat.reduceAdd, Nat.reduceEqDiff, not_false_eq_true, nI_T1, nI_T0, true_and, and_true, WC, WV, WU, nI_leS, nI_ge0S, m1_ge, if_true, if_false, eB, s_X12_sizeOf, es]
        rw [if_neg (by omega)]
        exact few
    | some k =>
      have hk3 := b2 k rfl
      have eo := (hIk.2 k hk3).1
      obtain ⟨zk1, zk2⟩ := zP_1 hp hk3
      rw [show zO pk (some k) = zP pk k from rfl, iO_s] at few
      rw [iO_s]
      cases t with
      | none =>
        rw [show zO pk none = 0 from rfl, iO_n] at few
        rw [iO_n]
        simp (disch := omega) only [g_X12_choose_77, g_X12_choose_79, g_X12_choose_82, g_X12_choose_83, g_X12_choose_86, g_X12_choose_87, g_X12_choose_90, g_X12_choose_91, g_X12_choose_94, g_X12_choose_96, g_X12_choose_97, g_X12_choose_98, g_X12_choose_99, g_X12_choose_100, g_X12_choose_103, g_X12_choose_104, g_X12_choose_105, g_X12_choose_106, g_X12_choose_108, g_X12_choose_109, g_X12_choose_111, g_X12_choose_113, g_X12_choose_116, g_X12_choose_117, g_X12_choose_120, g_X12_choose_121, g_X12_choose_122, g_X12_choose_124, g_X12_choose_127, g_X12_choose_129, lk_X12_choose, XI, Nat.reduceAdd, Nat.reduceEqDiff, not_false_eq_true, nI_T1, nI_T0, true_and, and_true, WC, WV, WU, nI_leS, nI_ge0S, m1_ge, if_true, if_false, eB, s_X12_sizeOf, eo, nI_long, lN_mul]
        rw [if_neg (by omega)]
        exact few
      | some j =>
        have hj := b3 j rfl
        have es := (hIk.2 j hj).1
        rw [show zO pk (some j) = zP pk j from rfl, iO_s] at few
        rw [iO_s]
        simp (disch := omega) only [g_X12_choose_77, g_X12_choose_79, g_X12_choose_82, g_X12_choose_83, g_X12_choose_86, g_X12_choose_87, g_X12_choose_90, g_X12_choose_91, g_X12_choose_94, g_X12_choose_96, g_X12_choose_97, g_X12_choose_98, g_X12_choose_99, g_X12_choose_100, g_X12_choose_103, g_X12_choose_104, g_X12_choose_105, g_X12_choose_106, g_X12_choose_108, g_X12_choose_109, g_X12_choose_111, g_X12_choose_113, g_X12_choose_116, g_X12_choose_117, g_X12_choose_120, g_X12_choose_121, g_X12_choose_122, g_X12_choose_124, g_X12_choose_127, g_X12_choose_129, lk_X12_choose, XI, Nat.reduceAdd, Nat.reduceEqDiff, not_false_eq_true, nI_T1, nI_T0, true_and, and_true, WC, WV, WU, nI_leS, nI_ge0S, if_true, if_false, eB, s_X12_sizeOf, eo, es, nI_long, lN_mul]
        rw [if_neg (by omega)]
        exact few
end
