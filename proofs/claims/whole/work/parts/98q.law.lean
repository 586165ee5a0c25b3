/-! the law: all its calls, one after another; both sides answer alike -/
def LI (c0 : rs_C) (m t : Nat) (w : rs_H) : Prop := ∃ P n s I J R D Ds Ls tp rea, w = sk_w P n s I J R ∧ n ≤ m ∧ s ≤ t ∧ SOk D Ds Ls tp ∧ CI P n I R D Ds Ls tp rea ∧ RI I D Ds Ls tp rea ∧ rs_bk w ∧ rs_k0 c0 w
theorem LI_n {c0 : rs_C} {m t : Nat} {w : rs_H} (h : LI c0 m t w) : w.2.1 ≤ m ∧ w.2.2 ≤ t := by
  obtain ⟨P, n, s, I, J, R, D, Ds, Ls, tp, rea, rfl, hn, hs, -⟩ := h
  exact ⟨hn, hs⟩
theorem LI_0 {c0 : rs_C} {m t : Nat} {w : rs_H} (h : LI c0 m t w) : w.1 0 = some c0 := by
  obtain ⟨P, n, s, I, J, R, D, Ds, Ls, tp, rea, rfl, hn, hs, hS, hC, hR, hb, hk⟩ := h
  exact hk.1
theorem LI_1 {c0 : rs_C} {m t : Nat} {w : rs_H} (h : LI c0 m t w) : rs_isK (w.1 1) 10 := by
  obtain ⟨P, n, s, I, J, R, D, Ds, Ls, tp, rea, rfl, hn, hs, hS, hC, hR, hb, hk⟩ := h
  rw [skc_1]
  exact rfl
theorem LI_m {c0 : rs_C} {m t m' t' : Nat} {w : rs_H} (h : LI c0 m t w) (hm : m ≤ m') (ht : t ≤ t') : LI c0 m' t' w := by
  obtain ⟨P, n, s, I, J, R, D, Ds, Ls, tp, rea, h1, hn, hs, h2⟩ := h
  exact ⟨P, n, s, I, J, R, D, Ds, Ls, tp, rea, h1, Nat.le_trans hn hm, Nat.le_trans hs ht, h2⟩
theorem law_pair {y z : MethodName} {as : List Value} (hB : ∀ {D : Dt} {Ds : Option Dt} {L : List Dt} {tp : List Nat} {rea : Int32}, SOk D Ds L tp → BC y z as D Ds L tp rea) {c0 : rs_C} {m t : Nat} {w : rs_H} (h : LI c0 m t w) (d : Nat) : rs_XM (d + 60) y (.ref 1 :: as) w (fun w1 v1 => ∃ v, v1 = some v ∧ rs_rk (rs_rt y) (some v) ∧ w1.1 0 = some c0 ∧ rs_isK (w1.1 61) 11 ∧ rs_XM (d + 60) z (.ref 61 :: as) w1 (fun w2 v2 => v2 = some v ∧ LI c0 (m + 100) (t + 1000) w2)) := by
  obtain ⟨P, n, s, I, J, R, D, Ds, Ls, tp, rea, rfl, hn, hs, hS, hC, hR, hb, hk⟩ := h
  obtain ⟨D', Ds', L', tp', rea', v, hS', cC, cR, hv⟩ := hB (rea := rea) hS
  have h1 := cC d P n s I J R (fun w1 v1 => ∃ P' n' s' I' J' R', w1 = sk_w P' n' s' I' J' R' ∧ CI P' n' I' R' D' Ds' L' tp' rea' ∧ fC I I' ∧ n' ≤ n + 100 ∧ s' ≤ s + 1000 ∧ v1 = some v) hC (fun P' n' s' I' J' R' a1 a2 a3 a4 a5 => ⟨P', n', s', I', J', R', rfl, a1, a2, a4, a5, rfl⟩)
  refine rs_XM_mono (rs_XM_rk (rs_XM_k (rs_XM_b h1 hb) hk)) ?_
  rintro w1 v1 ⟨⟨⟨⟨P', n', s', I', J', R', rfl, a1, a2, a4, a5, rfl⟩, hb1⟩, hk1⟩, hrk⟩
  refine ⟨v, rfl, hrk, hk1.1, by rw [skc_61]; exact rfl, ?_⟩
  have g8 : I' 61 8 = nI 0 ∨ I' 61 8 = nI 1 := by
    have g := hb1 61 _ (skc_61 _ _ _ _ _ _) rfl
    rcases g with e | e
    · exact Or.inl (Value.int.inj e)
    · exact Or.inr (Value.int.inj e)
  have h3 := cR d P' n' s' I' J' R' (fun w2 v2 => ∃ I2 J2, w2 = sk_w P' n' s' I2 J2 R' ∧ RI I2 D' Ds' L' tp' rea' ∧ fR I' I2 ∧ v2 = some v) g8 (RI_C hR a2) (fun I2 J2 r1 r2 _ => ⟨I2, J2, rfl, r1, r2, rfl⟩)
  refine rs_XM_mono (rs_XM_k (rs_XM_b h3 hb1) hk1) ?_
  rintro w2 v2 ⟨⟨⟨I2, J2, rfl, r1, r2, rfl⟩, hb2⟩, hk2⟩
  exact ⟨rfl, P', n', s', I2, J2, R', D', Ds', L', tp', rea', rfl, by omega, by omega, hS', CI_R a1 r2, r1, hb2, hk2⟩
section
variable {L : Nat} {xs : Nat → Int32} {m t i d : Nat} {w : rs_H} {Q : rs_H → Option Value → Prop}
theorem L_c_feed (h : LI (12, L, fun j => .int (xs j)) m t w) (h7 : i + 7 ≤ L) (hL : L ≤ 3584) (K : ∀ w', LI (12, L, fun j => .int (xs j)) (m + 100) (t + 1000) w' → rs_X (d + 61) x 1099 [some (.ref 0), some (.ref 1), some (.ref 61), some (.int (nI i))] [] w' Q) : rs_X (d + 61) x 164 [some (.ref 0), some (.ref 1), some (.ref 61), some (.int (nI i))] [] w Q := by
  have h0 := LI_0 h
  have h1 := LI_1 h
  simp (disch := omega) only [g_L_law_164, g_L_law_165, g_L_law_166, g_L_law_167, g_L_law_168, g_L_law_169, g_L_law_170, g_L_law_171, g_L_law_172, g_L_law_173, g_L_law_174, g_L_law_175, g_L_law_176, g_L_law_177, g_L_law_178, g_L_law_179, g_L_law_180, g_L_law_181, g_L_law_182, g_L_law_183, g_L_law_184, g_L_law_185, g_L_law_186, g_L_law_187, g_L_law_188, g_L_law_189, g_L_law_190, g_L_law_191, g_L_law_192, g_L_law_194, g_L_law_195, g_L_law_196, lk_L_law, XI, Nat.reduceAdd, Nat.reduceEqDiff, not_false_eq_true, nI_T1, nI_T0, true_and, and_true, h0, h1, nI_addS, nI_cl, rs_in_t]
  refine rs_XM_mono (law_pair (fun hS => b_feed hS _ _ _ _ _ _) h d) ?_
  rintro w1 v1 ⟨v, rfl, hrk, k0, k61, h3⟩
  obtain ⟨u, hu⟩ := hrk.1 rt_X11_feed
  cases hu
  simp (disch := omega) only [g_L_law_199, g_L_law_200, g_L_law_201, g_L_law_202, g_L_law_203, g_L_law_204, g_L_law_205, g_L_law_206, g_L_law_207, g_L_law_208, g_L_law_209, g_L_law_210, g_L_law_211, g_L_law_212, g_L_law_213, g_L_law_214, g_L_law_215, g_L_law_216, g_L_law_217, g_L_law_218, g_L_law_219, g_L_law_220, g_L_law_221, g_L_law_222, g_L_law_223, g_L_law_224, g_L_law_225, g_L_law_226, g_L_law_227, g_L_law_229, g_L_law_230, g_L_law_231, lk_L_law, XI, Nat.reduceAdd, Nat.reduceEqDiff, not_false_eq_true, nI_T1, nI_T0, true_and, and_true, k0, k61, nI_addS, nI_cl, rs_in_t]
  refine rs_XM_mono h3 ?_
  rintro w2 v2 ⟨rfl, h4⟩
  simp only [g_L_law_234, lk_L_law, XI, Nat.reduceAdd, Nat.reduceEqDiff, not_false_eq_true, nI_T1, nI_T0, true_and, and_true]
  rw [if_pos trivial]
  exact K w2 h4
theorem L_c_read (h : LI (12, L, fun j => .int (xs j)) m t w) (h7 : i + 7 ≤ L) (hL : L ≤ 3584) (K : ∀ w', LI (12, L, fun j => .int (xs j)) (m + 100) (t + 1000) w' → rs_X (d + 61) x 1099 [some (.ref 0), some (.ref 1), some (.ref 61), some (.int (nI i))] [] w' Q) : rs_X (d + 61) x 239 [some (.ref 0), some (.ref 1), some (.ref 61), some (.int (nI i))] [] w Q := by
  have h0 := LI_0 h
  have h1 := LI_1 h
  simp (disch := omega) only [g_L_law_239, g_L_law_240, lk_L_law, XI, Nat.reduceAdd, Nat.reduceEqDiff, not_false_eq_true, nI_T1, nI_T0, true_and, and_true, h0, h1, nI_addS, nI_cl, rs_in_t]
  refine rs_XM_mono (law_pair (fun hS => b_read hS) h d) ?_
  rintro w1 v1 ⟨v, rfl, hrk, k0, k61, h3⟩
  obtain ⟨u, hu⟩ := hrk.1 rt_X11_read
  cases hu
  simp (disch := omega) only [g_L_law_243, g_L_law_244, lk_L_law, XI, Nat.reduceAdd, Nat.reduceEqDiff, not_false_eq_true, nI_T1, nI_T0, true_and, and_true, k0, k61, nI_addS, nI_cl, rs_in_t]
  refine rs_XM_mono h3 ?_
  rintro w2 v2 ⟨rfl, h4⟩
  simp only [g_L_law_247, lk_L_law, XI, Nat.reduceAdd, Nat.reduceEqDiff, not_false_eq_true, nI_T1, nI_T0, true_and, and_true]
  rw [if_pos trivial]
  exact K w2 h4
theorem L_c_removeRecipe (h : LI (12, L, fun j => .int (xs j)) m t w) (h7 : i + 7 ≤ L) (hL : L ≤ 3584) (K : ∀ w', LI (12, L, fun j => .int (xs j)) (m + 100) (t + 1000) w' → rs_X (d + 61) x 1099 [some (.ref 0), some (.ref 1), some (.ref 61), some (.int (nI i))] [] w' Q) : rs_X (d + 61) x 252 [some (.ref 0), some (.ref 1), some (.ref 61), some (.int (nI i))] [] w Q := by
  have h0 := LI_0 h
  have h1 := LI_1 h
  simp (disch := omega) only [g_L_law_252, g_L_law_253, g_L_law_254, g_L_law_255, g_L_law_256, g_L_law_257, g_L_law_258, lk_L_law, XI, Nat.reduceAdd, Nat.reduceEqDiff, not_false_eq_true, nI_T1, nI_T0, true_and, and_true, h0, h1, nI_addS, nI_cl, rs_in_t]
  refine rs_XM_mono (law_pair (fun hS => b_removeRecipe hS _) h d) ?_
  rintro w1 v1 ⟨v, rfl, hrk, k0, k61, h3⟩
  obtain ⟨u, hu⟩ := hrk.1 rt_X11_removeRecipe
  cases hu
  simp (disch := omega) only [g_L_law_261, g_L_law_262, g_L_law_263, g_L_law_264, g_L_law_265, g_L_law_266, g_L_law_267, lk_L_law, XI, Nat.reduceAdd, Nat.reduceEqDiff, not_false_eq_true, nI_T1, nI_T0, true_and, and_true, k0, k61, nI_addS, nI_cl, rs_in_t]
  refine rs_XM_mono h3 ?_
  rintro w2 v2 ⟨rfl, h4⟩
  simp only [g_L_law_270, lk_L_law, XI, Nat.reduceAdd, Nat.reduceEqDiff, not_false_eq_true, nI_T1, nI_T0, true_and, and_true]
  rw [if_pos trivial]
  exact K w2 h4
theorem L_c_density (h : LI (12, L, fun j => .int (xs j)) m t w) (h7 : i + 7 ≤ L) (hL : L ≤ 3584) (K : ∀ w', LI (12, L, fun j => .int (xs j)) (m + 100) (t + 1000) w' → rs_X (d + 61) x 1099 [some (.ref 0), some (.ref 1), some (.ref 61), some (.int (nI i))] [] w' Q) : rs_X (d + 61) x 275 [some (.ref 0), some (.ref 1), some (.ref 61), some (.int (nI i))] [] w Q := by
  have h0 := LI_0 h
  have h1 := LI_1 h
  simp (disch := omega) only [g_L_law_275, g_L_law_276, g_L_law_277, g_L_law_278, g_L_law_279, g_L_law_280, g_L_law_281, g_L_law_282, g_L_law_283, g_L_law_284, g_L_law_285, g_L_law_286, g_L_law_287, g_L_law_288, g_L_law_289, g_L_law_290, g_L_law_291, lk_L_law, XI, Nat.reduceAdd, Nat.reduceEqDiff, not_false_eq_true, nI_T1, nI_T0, true_and, and_true, h0, h1, nI_addS, nI_cl, rs_in_t]
  refine rs_XM_mono (law_pair (fun hS => b_density hS _ _ _) h d) ?_
  rintro w1 v1 ⟨v, rfl, hrk, k0, k61, h3⟩
  obtain ⟨u, hu⟩ := hrk.1 rt_X11_density
  cases hu
  simp (disch := omega) only [g_L_law_294, g_L_law_295, g_L_law_296, g_L_law_297, g_L_law_298, g_L_law_299, g_L_law_300, g_L_law_301, g_L_law_302, g_L_law_303, g_L_law_304, g_L_law_305, g_L_law_306, g_L_law_307, g_L_law_308, g_L_law_309, g_L_law_310, lk_L_law, XI, Nat.reduceAdd, Nat.reduceEqDiff, not_false_eq_true, nI_T1, nI_T0, true_and, and_true, k0, k61, nI_addS, nI_cl, rs_in_t]
  refine rs_XM_mono h3 ?_
  rintro w2 v2 ⟨rfl, h4⟩
  simp only [g_L_law_313, lk_L_law, XI, Nat.reduceAdd, Nat.reduceEqDiff, not_false_eq_true, nI_T1, nI_T0, true_and, and_true]
  rw [if_pos trivial]
  exact K w2 h4
theorem L_c_weight (h : LI (12, L, fun j => .int (xs j)) m t w) (h7 : i + 7 ≤ L) (hL : L ≤ 3584) (K : ∀ w', LI (12, L, fun j => .int (xs j)) (m + 100) (t + 1000) w' → rs_X (d + 61) x 1099 [some (.ref 0), some (.ref 1), some (.ref 61), some (.int (nI i))] [] w' Q) : rs_X (d + 61) x 318 [some (.ref 0), some (.ref 1), some (.ref 61), some (.int (nI i))] [] w Q := by
  have h0 := LI_0 h
  have h1 := LI_1 h
  simp (disch := omega) only [g_L_law_318, g_L_law_319, g_L_law_320, g_L_law_321, g_L_law_322, g_L_law_323, g_L_law_324, g_L_law_325, g_L_law_326, g_L_law_327, g_L_law_328, g_L_law_329, g_L_law_330, g_L_law_331, g_L_law_332, g_L_law_333, g_L_law_334, lk_L_law, XI, Nat.reduceAdd, Nat.reduceEqDiff, not_false_eq_true, nI_T1, nI_T0, true_and, and_true, h0, h1, nI_addS, nI_cl, rs_in_t]
  refine rs_XM_mono (law_pair (fun hS => b_weight hS _ _ _) h d) ?_
  rintro w1 v1 ⟨v, rfl, hrk, k0, k61, h3⟩
  obtain ⟨u, hu⟩ := hrk.1 rt_X11_weight
  cases hu
  simp (disch := omega) only [g_L_law_337, g_L_law_338, g_L_law_339, g_L_law_340, g_L_law_341, g_L_law_342, g_L_law_343, g_L_law_344, g_L_law_345, g_L_law_346, g_L_law_347, g_L_law_348, g_L_law_349, g_L_law_350, g_L_law_351, g_L_law_352, g_L_law_353, lk_L_law, XI, Nat.reduceAdd, Nat.reduceEqDiff, not_false_eq_true, nI_T1, nI_T0, true_and, and_true, k0, k61, nI_addS, nI_cl, rs_in_t]
  refine rs_XM_mono h3 ?_
  rintro w2 v2 ⟨rfl, h4⟩
  simp only [g_L_law_356, lk_L_law, XI, Nat.reduceAdd, Nat.reduceEqDiff, not_false_eq_true, nI_T1, nI_T0, true_and, and_true]
  rw [if_pos trivial]
  exact K w2 h4
theorem L_c_allergens (h : LI (12, L, fun j => .int (xs j)) m t w) (h7 : i + 7 ≤ L) (hL : L ≤ 3584) (K : ∀ w', LI (12, L, fun j => .int (xs j)) (m + 100) (t + 1000) w' → rs_X (d + 61) x 1099 [some (.ref 0), some (.ref 1), some (.ref 61), some (.int (nI i))] [] w' Q) : rs_X (d + 61) x 361 [some (.ref 0), some (.ref 1), some (.ref 61), some (.int (nI i))] [] w Q := by
  have h0 := LI_0 h
  have h1 := LI_1 h
  simp (disch := omega) only [g_L_law_361, g_L_law_362, g_L_law_363, g_L_law_364, g_L_law_365, g_L_law_366, g_L_law_367, g_L_law_368, g_L_law_369, g_L_law_370, g_L_law_371, g_L_law_372, g_L_law_373, g_L_law_374, g_L_law_375, g_L_law_376, g_L_law_377, lk_L_law, XI, Nat.reduceAdd, Nat.reduceEqDiff, not_false_eq_true, nI_T1, nI_T0, true_and, and_true, h0, h1, nI_addS, nI_cl, rs_in_t]
  refine rs_XM_mono (law_pair (fun hS => b_allergens hS _ _ _) h d) ?_
  rintro w1 v1 ⟨v, rfl, hrk, k0, k61, h3⟩
  obtain ⟨u, hu⟩ := hrk.1 rt_X11_allergens
  cases hu
  simp (disch := omega) only [g_L_law_380, g_L_law_381, g_L_law_382, g_L_law_383, g_L_law_384, g_L_law_385, g_L_law_386, g_L_law_387, g_L_law_388, g_L_law_389, g_L_law_390, g_L_law_391, g_L_law_392, g_L_law_393, g_L_law_394, g_L_law_395, g_L_law_396, lk_L_law, XI, Nat.reduceAdd, Nat.reduceEqDiff, not_false_eq_true, nI_T1, nI_T0, true_and, and_true, k0, k61, nI_addS, nI_cl, rs_in_t]
  refine rs_XM_mono h3 ?_
  rintro w2 v2 ⟨rfl, h4⟩
  simp only [g_L_law_399, lk_L_law, XI, Nat.reduceAdd, Nat.reduceEqDiff, not_false_eq_true, nI_T1, nI_T0, true_and, and_true]
  rw [if_pos trivial]
  exact K w2 h4
theorem L_c_stock (h : LI (12, L, fun j => .int (xs j)) m t w) (h7 : i + 7 ≤ L) (hL : L ≤ 3584) (K : ∀ w', LI (12, L, fun j => .int (xs j)) (m + 100) (t + 1000) w' → rs_X (d + 61) x 1099 [some (.ref 0), some (.ref 1), some (.ref 61), some (.int (nI i))] [] w' Q) : rs_X (d + 61) x 404 [some (.ref 0), some (.ref 1), some (.ref 61), some (.int (nI i))] [] w Q := by
  have h0 := LI_0 h
  have h1 := LI_1 h
  simp (disch := omega) only [g_L_law_404, g_L_law_405, g_L_law_406, g_L_law_407, g_L_law_408, g_L_law_409, g_L_law_410, g_L_law_411, g_L_law_412, g_L_law_413, g_L_law_414, g_L_law_415, lk_L_law, XI, Nat.reduceAdd, Nat.reduceEqDiff, not_false_eq_true, nI_T1, nI_T0, true_and, and_true, h0, h1, nI_addS, nI_cl, rs_in_t]
  refine rs_XM_mono (law_pair (fun hS => b_stock hS _ _) h d) ?_
  rintro w1 v1 ⟨v, rfl, hrk, k0, k61, h3⟩
  obtain ⟨u, hu⟩ := hrk.1 rt_X11_stock
  cases hu
  simp (disch := omega) only [g_L_law_418, g_L_law_419, g_L_law_420, g_L_law_421, g_L_law_422, g_L_law_423, g_L_law_424, g_L_law_425, g_L_law_426, g_L_law_427, g_L_law_428, g_L_law_429, lk_L_law, XI, Nat.reduceAdd, Nat.reduceEqDiff, not_false_eq_true, nI_T1, nI_T0, true_and, and_true, k0, k61, nI_addS, nI_cl, rs_in_t]
  refine rs_XM_mono h3 ?_
  rintro w2 v2 ⟨rfl, h4⟩
  simp only [g_L_law_432, lk_L_law, XI, Nat.reduceAdd, Nat.reduceEqDiff, not_false_eq_true, nI_T1, nI_T0, true_and, and_true]
  rw [if_pos trivial]
  exact K w2 h4
theorem L_c_pack (h : LI (12, L, fun j => .int (xs j)) m t w) (h7 : i + 7 ≤ L) (hL : L ≤ 3584) (K : ∀ w', LI (12, L, fun j => .int (xs j)) (m + 100) (t + 1000) w' → rs_X (d + 61) x 1099 [some (.ref 0), some (.ref 1), some (.ref 61), some (.int (nI i))] [] w' Q) : rs_X (d + 61) x 437 [some (.ref 0), some (.ref 1), some (.ref 61), some (.int (nI i))] [] w Q := by
  have h0 := LI_0 h
  have h1 := LI_1 h
  simp (disch := omega) only [g_L_law_437, g_L_law_438, g_L_law_439, g_L_law_440, g_L_law_441, g_L_law_442, g_L_law_443, g_L_law_444, g_L_law_445, g_L_law_446, g_L_law_447, g_L_law_448, g_L_law_449, g_L_law_450, g_L_law_451, g_L_law_452, g_L_law_453, lk_L_law, XI, Nat.reduceAdd, Nat.reduceEqDiff, not_false_eq_true, nI_T1, nI_T0, true_and, and_true, h0, h1, nI_addS, nI_cl, rs_in_t]
  refine rs_XM_mono (law_pair (fun hS => b_pack hS _ _ _) h d) ?_
  rintro w1 v1 ⟨v, rfl, hrk, k0, k61, h3⟩
  obtain ⟨u, hu⟩ := hrk.1 rt_X11_pack
  cases hu
  simp (disch := omega) only [g_L_law_456, g_L_law_457, g_L_law_458, g_L_law_459, g_L_law_460, g_L_law_461, g_L_law_462, g_L_law_463, g_L_law_464, g_L_law_465, g_L_law_466, g_L_law_467, g_L_law_468, g_L_law_469, g_L_law_470, g_L_law_471, g_L_law_472, lk_L_law, XI, Nat.reduceAdd, Nat.reduceEqDiff, not_false_eq_true, nI_T1, nI_T0, true_and, and_true, k0, k61, nI_addS, nI_cl, rs_in_t]
  refine rs_XM_mono h3 ?_
  rintro w2 v2 ⟨rfl, h4⟩
  simp only [g_L_law_475, lk_L_law, XI, Nat.reduceAdd, Nat.reduceEqDiff, not_false_eq_true, nI_T1, nI_T0, true_and, and_true]
  rw [if_pos trivial]
  exact K w2 h4
theorem L_c_removePack (h : LI (12, L, fun j => .int (xs j)) m t w) (h7 : i + 7 ≤ L) (hL : L ≤ 3584) (K : ∀ w', LI (12, L, fun j => .int (xs j)) (m + 100) (t + 1000) w' → rs_X (d + 61) x 1099 [some (.ref 0), some (.ref 1), some (.ref 61), some (.int (nI i))] [] w' Q) : rs_X (d + 61) x 480 [some (.ref 0), some (.ref 1), some (.ref 61), some (.int (nI i))] [] w Q := by
  have h0 := LI_0 h
  have h1 := LI_1 h
  simp (disch := omega) only [g_L_law_480, g_L_law_481, g_L_law_482, g_L_law_483, g_L_law_484, g_L_law_485, g_L_law_486, lk_L_law, XI, Nat.reduceAdd, Nat.reduceEqDiff, not_false_eq_true, nI_T1, nI_T0, true_and, and_true, h0, h1, nI_addS, nI_cl, rs_in_t]
  refine rs_XM_mono (law_pair (fun hS => b_removePack hS _) h d) ?_
  rintro w1 v1 ⟨v, rfl, hrk, k0, k61, h3⟩
  obtain ⟨u, hu⟩ := hrk.1 rt_X11_removePack
  cases hu
  simp (disch := omega) only [g_L_law_489, g_L_law_490, g_L_law_491, g_L_law_492, g_L_law_493, g_L_law_494, g_L_law_495, lk_L_law, XI, Nat.reduceAdd, Nat.reduceEqDiff, not_false_eq_true, nI_T1, nI_T0, true_and, and_true, k0, k61, nI_addS, nI_cl, rs_in_t]
  refine rs_XM_mono h3 ?_
  rintro w2 v2 ⟨rfl, h4⟩
  simp only [g_L_law_498, lk_L_law, XI, Nat.reduceAdd, Nat.reduceEqDiff, not_false_eq_true, nI_T1, nI_T0, true_and, and_true]
  rw [if_pos trivial]
  exact K w2 h4
theorem L_c_substitute (h : LI (12, L, fun j => .int (xs j)) m t w) (h7 : i + 7 ≤ L) (hL : L ≤ 3584) (K : ∀ w', LI (12, L, fun j => .int (xs j)) (m + 100) (t + 1000) w' → rs_X (d + 61) x 1099 [some (.ref 0), some (.ref 1), some (.ref 61), some (.int (nI i))] [] w' Q) : rs_X (d + 61) x 503 [some (.ref 0), some (.ref 1), some (.ref 61), some (.int (nI i))] [] w Q := by
  have h0 := LI_0 h
  have h1 := LI_1 h
  simp (disch := omega) only [g_L_law_503, g_L_law_504, g_L_law_505, g_L_law_506, g_L_law_507, g_L_law_508, g_L_law_509, g_L_law_510, g_L_law_511, g_L_law_512, g_L_law_513, g_L_law_514, g_L_law_515, g_L_law_516, g_L_law_517, g_L_law_518, g_L_law_519, g_L_law_520, g_L_law_521, g_L_law_522, g_L_law_523, g_L_law_524, g_L_law_525, g_L_law_526, g_L_law_527, g_L_law_528, g_L_law_529, g_L_law_530, g_L_law_531, g_L_law_533, g_L_law_534, g_L_law_535, lk_L_law, XI, Nat.reduceAdd, Nat.reduceEqDiff, not_false_eq_true, nI_T1, nI_T0, true_and, and_true, h0, h1, nI_addS, nI_cl, rs_in_t]
  refine rs_XM_mono (law_pair (fun hS => b_substitute hS _ _ _ _ _ _) h d) ?_
  rintro w1 v1 ⟨v, rfl, hrk, k0, k61, h3⟩
  obtain ⟨u, hu⟩ := hrk.1 rt_X11_substitute
  cases hu
  simp (disch := omega) only [g_L_law_538, g_L_law_539, g_L_law_540, g_L_law_541, g_L_law_542, g_L_law_543, g_L_law_544, g_L_law_545, g_L_law_546, g_L_law_547, g_L_law_548, g_L_law_549, g_L_law_550, g_L_law_551, g_L_law_552, g_L_law_553, g_L_law_554, g_L_law_555, g_L_law_556, g_L_law_557, g_L_law_558, g_L_law_559, g_L_law_560, g_L_law_561, g_L_law_562, g_L_law_563, g_L_law_564, g_L_law_565, g_L_law_566, g_L_law_568, g_L_law_569, g_L_law_570, lk_L_law, XI, Nat.reduceAdd, Nat.reduceEqDiff, not_false_eq_true, nI_T1, nI_T0, true_and, and_true, k0, k61, nI_addS, nI_cl, rs_in_t]
  refine rs_XM_mono h3 ?_
  rintro w2 v2 ⟨rfl, h4⟩
  simp only [g_L_law_573, lk_L_law, XI, Nat.reduceAdd, Nat.reduceEqDiff, not_false_eq_true, nI_T1, nI_T0, true_and, and_true]
  rw [if_pos trivial]
  exact K w2 h4
theorem L_c_removeSubstitution (h : LI (12, L, fun j => .int (xs j)) m t w) (h7 : i + 7 ≤ L) (hL : L ≤ 3584) (K : ∀ w', LI (12, L, fun j => .int (xs j)) (m + 100) (t + 1000) w' → rs_X (d + 61) x 1099 [some (.ref 0), some (.ref 1), some (.ref 61), some (.int (nI i))] [] w' Q) : rs_X (d + 61) x 578 [some (.ref 0), some (.ref 1), some (.ref 61), some (.int (nI i))] [] w Q := by
  have h0 := LI_0 h
  have h1 := LI_1 h
  simp (disch := omega) only [g_L_law_578, g_L_law_579, g_L_law_580, g_L_law_581, g_L_law_582, g_L_law_583, g_L_law_584, lk_L_law, XI, Nat.reduceAdd, Nat.reduceEqDiff, not_false_eq_true, nI_T1, nI_T0, true_and, and_true, h0, h1, nI_addS, nI_cl, rs_in_t]
  refine rs_XM_mono (law_pair (fun hS => b_removeSubstitution hS _) h d) ?_
  rintro w1 v1 ⟨v, rfl, hrk, k0, k61, h3⟩
  obtain ⟨u, hu⟩ := hrk.1 rt_X11_removeSubstitution
  cases hu
  simp (disch := omega) only [g_L_law_587, g_L_law_588, g_L_law_589, g_L_law_590, g_L_law_591, g_L_law_592, g_L_law_593, lk_L_law, XI, Nat.reduceAdd, Nat.reduceEqDiff, not_false_eq_true, nI_T1, nI_T0, true_and, and_true, k0, k61, nI_addS, nI_cl, rs_in_t]
  refine rs_XM_mono h3 ?_
  rintro w2 v2 ⟨rfl, h4⟩
  simp only [g_L_law_596, lk_L_law, XI, Nat.reduceAdd, Nat.reduceEqDiff, not_false_eq_true, nI_T1, nI_T0, true_and, and_true]
  rw [if_pos trivial]
  exact K w2 h4
theorem L_c_scale (h : LI (12, L, fun j => .int (xs j)) m t w) (h7 : i + 7 ≤ L) (hL : L ≤ 3584) (K : ∀ w', LI (12, L, fun j => .int (xs j)) (m + 100) (t + 1000) w' → rs_X (d + 61) x 1099 [some (.ref 0), some (.ref 1), some (.ref 61), some (.int (nI i))] [] w' Q) : rs_X (d + 61) x 601 [some (.ref 0), some (.ref 1), some (.ref 61), some (.int (nI i))] [] w Q := by
  have h0 := LI_0 h
  have h1 := LI_1 h
  simp (disch := omega) only [g_L_law_601, g_L_law_602, g_L_law_603, g_L_law_604, g_L_law_605, g_L_law_606, g_L_law_607, g_L_law_608, g_L_law_609, g_L_law_610, g_L_law_611, g_L_law_612, g_L_law_613, g_L_law_614, g_L_law_615, g_L_law_616, g_L_law_617, lk_L_law, XI, Nat.reduceAdd, Nat.reduceEqDiff, not_false_eq_true, nI_T1, nI_T0, true_and, and_true, h0, h1, nI_addS, nI_cl, rs_in_t]
  refine rs_XM_mono (law_pair (fun hS => b_scale hS _ _ _) h d) ?_
  rintro w1 v1 ⟨v, rfl, hrk, k0, k61, h3⟩
  obtain ⟨u, hu⟩ := hrk.1 rt_X11_scale
  cases hu
  simp (disch := omega) only [g_L_law_620, g_L_law_621, g_L_law_622, g_L_law_623, g_L_law_624, g_L_law_625, g_L_law_626, g_L_law_627, g_L_law_628, g_L_law_629, g_L_law_630, g_L_law_631, g_L_law_632, g_L_law_633, g_L_law_634, g_L_law_635, g_L_law_636, lk_L_law, XI, Nat.reduceAdd, Nat.reduceEqDiff, not_false_eq_true, nI_T1, nI_T0, true_and, and_true, k0, k61, nI_addS, nI_cl, rs_in_t]
  refine rs_XM_mono h3 ?_
  rintro w2 v2 ⟨rfl, h4⟩
  simp only [g_L_law_639, lk_L_law, XI, Nat.reduceAdd, Nat.reduceEqDiff, not_false_eq_true, nI_T1, nI_T0, true_and, and_true]
  rw [if_pos trivial]
  exact K w2 h4
theorem L_c_pan (h : LI (12, L, fun j => .int (xs j)) m t w) (h7 : i + 7 ≤ L) (hL : L ≤ 3584) (K : ∀ w', LI (12, L, fun j => .int (xs j)) (m + 100) (t + 1000) w' → rs_X (d + 61) x 1099 [some (.ref 0), some (.ref 1), some (.ref 61), some (.int (nI i))] [] w' Q) : rs_X (d + 61) x 644 [some (.ref 0), some (.ref 1), some (.ref 61), some (.int (nI i))] [] w Q := by
  have h0 := LI_0 h
  have h1 := LI_1 h
  simp (disch := omega) only [g_L_law_644, g_L_law_645, g_L_law_646, g_L_law_647, g_L_law_648, g_L_law_649, g_L_law_650, g_L_law_651, g_L_law_652, g_L_law_653, g_L_law_654, g_L_law_655, lk_L_law, XI, Nat.reduceAdd, Nat.reduceEqDiff, not_false_eq_true, nI_T1, nI_T0, true_and, and_true, h0, h1, nI_addS, nI_cl, rs_in_t]
  refine rs_XM_mono (law_pair (fun hS => b_pan hS _ _) h d) ?_
  rintro w1 v1 ⟨v, rfl, hrk, k0, k61, h3⟩
  obtain ⟨u, hu⟩ := hrk.1 rt_X11_pan
  cases hu
  simp (disch := omega) only [g_L_law_658, g_L_law_659, g_L_law_660, g_L_law_661, g_L_law_662, g_L_law_663, g_L_law_664, g_L_law_665, g_L_law_666, g_L_law_667, g_L_law_668, g_L_law_669, lk_L_law, XI, Nat.reduceAdd, Nat.reduceEqDiff, not_false_eq_true, nI_T1, nI_T0, true_and, and_true, k0, k61, nI_addS, nI_cl, rs_in_t]
  refine rs_XM_mono h3 ?_
  rintro w2 v2 ⟨rfl, h4⟩
  simp only [g_L_law_672, lk_L_law, XI, Nat.reduceAdd, Nat.reduceEqDiff, not_false_eq_true, nI_T1, nI_T0, true_and, and_true]
  rw [if_pos trivial]
  exact K w2 h4
theorem L_c_buy (h : LI (12, L, fun j => .int (xs j)) m t w) (h7 : i + 7 ≤ L) (hL : L ≤ 3584) (K : ∀ w', LI (12, L, fun j => .int (xs j)) (m + 100) (t + 1000) w' → rs_X (d + 61) x 1099 [some (.ref 0), some (.ref 1), some (.ref 61), some (.int (nI i))] [] w' Q) : rs_X (d + 61) x 677 [some (.ref 0), some (.ref 1), some (.ref 61), some (.int (nI i))] [] w Q := by
  have h0 := LI_0 h
  have h1 := LI_1 h
  simp (disch := omega) only [g_L_law_677, g_L_law_678, lk_L_law, XI, Nat.reduceAdd, Nat.reduceEqDiff, not_false_eq_true, nI_T1, nI_T0, true_and, and_true, h0, h1, nI_addS, nI_cl, rs_in_t]
  refine rs_XM_mono (law_pair (fun hS => b_buy hS) h d) ?_
  rintro w1 v1 ⟨v, rfl, hrk, k0, k61, h3⟩
  obtain ⟨u, hu⟩ := hrk.1 rt_X11_buy
  cases hu
  simp (disch := omega) only [g_L_law_681, g_L_law_682, lk_L_law, XI, Nat.reduceAdd, Nat.reduceEqDiff, not_false_eq_true, nI_T1, nI_T0, true_and, and_true, k0, k61, nI_addS, nI_cl, rs_in_t]
  refine rs_XM_mono h3 ?_
  rintro w2 v2 ⟨rfl, h4⟩
  simp only [g_L_law_685, lk_L_law, XI, Nat.reduceAdd, Nat.reduceEqDiff, not_false_eq_true, nI_T1, nI_T0, true_and, and_true]
  rw [if_pos trivial]
  exact K w2 h4
theorem L_c_recipe (h : LI (12, L, fun j => .int (xs j)) m t w) (h7 : i + 7 ≤ L) (hL : L ≤ 3584) (K : ∀ w', LI (12, L, fun j => .int (xs j)) (m + 100) (t + 1000) w' → rs_X (d + 61) x 1099 [some (.ref 0), some (.ref 1), some (.ref 61), some (.int (nI i))] [] w' Q) : rs_X (d + 61) x 690 [some (.ref 0), some (.ref 1), some (.ref 61), some (.int (nI i))] [] w Q := by
  have h0 := LI_0 h
  have h1 := LI_1 h
  simp (disch := omega) only [g_L_law_690, g_L_law_691, g_L_law_692, g_L_law_693, g_L_law_694, g_L_law_695, g_L_law_696, g_L_law_697, g_L_law_698, g_L_law_699, g_L_law_700, g_L_law_701, lk_L_law, XI, Nat.reduceAdd, Nat.reduceEqDiff, not_false_eq_true, nI_T1, nI_T0, true_and, and_true, h0, h1, nI_addS, nI_cl, rs_in_t]
  refine rs_XM_mono (law_pair (fun hS => b_recipe hS _ _) h d) ?_
  rintro w1 v1 ⟨v, rfl, hrk, k0, k61, h3⟩
  obtain ⟨u, hu⟩ := hrk.1 rt_X11_recipe
  cases hu
  simp (disch := omega) only [g_L_law_704, g_L_law_705, g_L_law_706, g_L_law_707, g_L_law_708, g_L_law_709, g_L_law_710, g_L_law_711, g_L_law_712, g_L_law_713, g_L_law_714, g_L_law_715, lk_L_law, XI, Nat.reduceAdd, Nat.reduceEqDiff, not_false_eq_true, nI_T1, nI_T0, true_and, and_true, k0, k61, nI_addS, nI_cl, rs_in_t]
  refine rs_XM_mono h3 ?_
  rintro w2 v2 ⟨rfl, h4⟩
  simp only [g_L_law_718, lk_L_law, XI, Nat.reduceAdd, Nat.reduceEqDiff, not_false_eq_true, nI_T1, nI_T0, true_and, and_true]
  rw [if_pos trivial]
  exact K w2 h4
theorem L_c_item (h : LI (12, L, fun j => .int (xs j)) m t w) (h7 : i + 7 ≤ L) (hL : L ≤ 3584) (K : ∀ w', LI (12, L, fun j => .int (xs j)) (m + 100) (t + 1000) w' → rs_X (d + 61) x 1099 [some (.ref 0), some (.ref 1), some (.ref 61), some (.int (nI i))] [] w' Q) : rs_X (d + 61) x 723 [some (.ref 0), some (.ref 1), some (.ref 61), some (.int (nI i))] [] w Q := by
  have h0 := LI_0 h
  have h1 := LI_1 h
  simp (disch := omega) only [g_L_law_723, g_L_law_724, g_L_law_725, g_L_law_726, g_L_law_727, g_L_law_728, g_L_law_729, g_L_law_730, g_L_law_731, g_L_law_732, g_L_law_733, g_L_law_734, g_L_law_735, g_L_law_736, g_L_law_737, g_L_law_738, g_L_law_739, lk_L_law, XI, Nat.reduceAdd, Nat.reduceEqDiff, not_false_eq_true, nI_T1, nI_T0, true_and, and_true, h0, h1, nI_addS, nI_cl, rs_in_t]
  refine rs_XM_mono (law_pair (fun hS => b_item hS _ _ _) h d) ?_
  rintro w1 v1 ⟨v, rfl, hrk, k0, k61, h3⟩
  obtain ⟨u, hu⟩ := hrk.1 rt_X11_item
  cases hu
  simp (disch := omega) only [g_L_law_742, g_L_law_743, g_L_law_744, g_L_law_745, g_L_law_746, g_L_law_747, g_L_law_748, g_L_law_749, g_L_law_750, g_L_law_751, g_L_law_752, g_L_law_753, g_L_law_754, g_L_law_755, g_L_law_756, g_L_law_757, g_L_law_758, lk_L_law, XI, Nat.reduceAdd, Nat.reduceEqDiff, not_false_eq_true, nI_T1, nI_T0, true_and, and_true, k0, k61, nI_addS, nI_cl, rs_in_t]
  refine rs_XM_mono h3 ?_
  rintro w2 v2 ⟨rfl, h4⟩
  simp only [g_L_law_761, lk_L_law, XI, Nat.reduceAdd, Nat.reduceEqDiff, not_false_eq_true, nI_T1, nI_T0, true_and, and_true]
  rw [if_pos trivial]
  exact K w2 h4
theorem L_c_needed (h : LI (12, L, fun j => .int (xs j)) m t w) (h7 : i + 7 ≤ L) (hL : L ≤ 3584) (K : ∀ w', LI (12, L, fun j => .int (xs j)) (m + 100) (t + 1000) w' → rs_X (d + 61) x 1099 [some (.ref 0), some (.ref 1), some (.ref 61), some (.int (nI i))] [] w' Q) : rs_X (d + 61) x 766 [some (.ref 0), some (.ref 1), some (.ref 61), some (.int (nI i))] [] w Q := by
  have h0 := LI_0 h
  have h1 := LI_1 h
  simp (disch := omega) only [g_L_law_766, g_L_law_767, g_L_law_768, g_L_law_769, g_L_law_770, g_L_law_771, g_L_law_772, g_L_law_773, g_L_law_774, g_L_law_775, g_L_law_776, g_L_law_777, g_L_law_778, g_L_law_779, g_L_law_780, g_L_law_781, g_L_law_782, lk_L_law, XI, Nat.reduceAdd, Nat.reduceEqDiff, not_false_eq_true, nI_T1, nI_T0, true_and, and_true, h0, h1, nI_addS, nI_cl, rs_in_t]
  refine rs_XM_mono (law_pair (fun hS => b_needed hS _ _ _) h d) ?_
  rintro w1 v1 ⟨v, rfl, hrk, k0, k61, h3⟩
  obtain ⟨u, hu⟩ := hrk.2 rt_X11_needed
  cases hu
  simp (disch := omega) only [g_L_law_785, g_L_law_786, g_L_law_787, g_L_law_788, g_L_law_789, g_L_law_790, g_L_law_791, g_L_law_792, g_L_law_793, g_L_law_794, g_L_law_795, g_L_law_796, g_L_law_797, g_L_law_798, g_L_law_799, g_L_law_800, g_L_law_801, lk_L_law, XI, Nat.reduceAdd, Nat.reduceEqDiff, not_false_eq_true, nI_T1, nI_T0, true_and, and_true, k0, k61, nI_addS, nI_cl, rs_in_t]
  refine rs_XM_mono h3 ?_
  rintro w2 v2 ⟨rfl, h4⟩
  simp only [g_L_law_804, g_L_law_805, lk_L_law, XI, Nat.reduceAdd, Nat.reduceEqDiff, not_false_eq_true, nI_T1, nI_T0, true_and, and_true]
  rw [if_pos ((lg_cmp_eq _ _).mpr rfl)]
  exact K w2 h4
theorem L_c_reason (h : LI (12, L, fun j => .int (xs j)) m t w) (h7 : i + 7 ≤ L) (hL : L ≤ 3584) (K : ∀ w', LI (12, L, fun j => .int (xs j)) (m + 100) (t + 1000) w' → rs_X (d + 61) x 1099 [some (.ref 0), some (.ref 1), some (.ref 61), some (.int (nI i))] [] w' Q) : rs_X (d + 61) x 810 [some (.ref 0), some (.ref 1), some (.ref 61), some (.int (nI i))] [] w Q := by
  have h0 := LI_0 h
  have h1 := LI_1 h
  simp (disch := omega) only [g_L_law_810, g_L_law_811, lk_L_law, XI, Nat.reduceAdd, Nat.reduceEqDiff, not_false_eq_true, nI_T1, nI_T0, true_and, and_true, h0, h1, nI_addS, nI_cl, rs_in_t]
  refine rs_XM_mono (law_pair (fun hS => b_reason hS) h d) ?_
  rintro w1 v1 ⟨v, rfl, hrk, k0, k61, h3⟩
  obtain ⟨u, hu⟩ := hrk.1 rt_X11_reason
  cases hu
  simp (disch := omega) only [g_L_law_814, g_L_law_815, lk_L_law, XI, Nat.reduceAdd, Nat.reduceEqDiff, not_false_eq_true, nI_T1, nI_T0, true_and, and_true, k0, k61, nI_addS, nI_cl, rs_in_t]
  refine rs_XM_mono h3 ?_
  rintro w2 v2 ⟨rfl, h4⟩
  simp only [g_L_law_818, lk_L_law, XI, Nat.reduceAdd, Nat.reduceEqDiff, not_false_eq_true, nI_T1, nI_T0, true_and, and_true]
  rw [if_pos trivial]
  exact K w2 h4
theorem L_c_applied (h : LI (12, L, fun j => .int (xs j)) m t w) (h7 : i + 7 ≤ L) (hL : L ≤ 3584) (K : ∀ w', LI (12, L, fun j => .int (xs j)) (m + 100) (t + 1000) w' → rs_X (d + 61) x 1099 [some (.ref 0), some (.ref 1), some (.ref 61), some (.int (nI i))] [] w' Q) : rs_X (d + 61) x 823 [some (.ref 0), some (.ref 1), some (.ref 61), some (.int (nI i))] [] w Q := by
  have h0 := LI_0 h
  have h1 := LI_1 h
  simp (disch := omega) only [g_L_law_823, g_L_law_824, g_L_law_825, g_L_law_826, g_L_law_827, g_L_law_828, g_L_law_829, g_L_law_830, g_L_law_831, g_L_law_832, g_L_law_833, g_L_law_834, lk_L_law, XI, Nat.reduceAdd, Nat.reduceEqDiff, not_false_eq_true, nI_T1, nI_T0, true_and, and_true, h0, h1, nI_addS, nI_cl, rs_in_t]
  refine rs_XM_mono (law_pair (fun hS => b_applied hS _ _) h d) ?_
  rintro w1 v1 ⟨v, rfl, hrk, k0, k61, h3⟩
  obtain ⟨u, hu⟩ := hrk.2 rt_X11_applied
  cases hu
  simp (disch := omega) only [g_L_law_837, g_L_law_838, g_L_law_839, g_L_law_840, g_L_law_841, g_L_law_842, g_L_law_843, g_L_law_844, g_L_law_845, g_L_law_846, g_L_law_847, g_L_law_848, lk_L_law, XI, Nat.reduceAdd, Nat.reduceEqDiff, not_false_eq_true, nI_T1, nI_T0, true_and, and_true, k0, k61, nI_addS, nI_cl, rs_in_t]
  refine rs_XM_mono h3 ?_
  rintro w2 v2 ⟨rfl, h4⟩
  simp only [g_L_law_851, g_L_law_852, lk_L_law, XI, Nat.reduceAdd, Nat.reduceEqDiff, not_false_eq_true, nI_T1, nI_T0, true_and, and_true]
  rw [if_pos ((lg_cmp_eq _ _).mpr rfl)]
  exact K w2 h4
theorem L_c_shopping (h : LI (12, L, fun j => .int (xs j)) m t w) (h7 : i + 7 ≤ L) (hL : L ≤ 3584) (K : ∀ w', LI (12, L, fun j => .int (xs j)) (m + 100) (t + 1000) w' → rs_X (d + 61) x 1099 [some (.ref 0), some (.ref 1), some (.ref 61), some (.int (nI i))] [] w' Q) : rs_X (d + 61) x 857 [some (.ref 0), some (.ref 1), some (.ref 61), some (.int (nI i))] [] w Q := by
  have h0 := LI_0 h
  have h1 := LI_1 h
  simp (disch := omega) only [g_L_law_857, g_L_law_858, g_L_law_859, g_L_law_860, g_L_law_861, g_L_law_862, g_L_law_863, g_L_law_864, g_L_law_865, g_L_law_866, g_L_law_867, g_L_law_868, lk_L_law, XI, Nat.reduceAdd, Nat.reduceEqDiff, not_false_eq_true, nI_T1, nI_T0, true_and, and_true, h0, h1, nI_addS, nI_cl, rs_in_t]
  refine rs_XM_mono (law_pair (fun hS => b_shopping hS _ _) h d) ?_
  rintro w1 v1 ⟨v, rfl, hrk, k0, k61, h3⟩
  obtain ⟨u, hu⟩ := hrk.1 rt_X11_shopping
  cases hu
  simp (disch := omega) only [g_L_law_871, g_L_law_872, g_L_law_873, g_L_law_874, g_L_law_875, g_L_law_876, g_L_law_877, g_L_law_878, g_L_law_879, g_L_law_880, g_L_law_881, g_L_law_882, lk_L_law, XI, Nat.reduceAdd, Nat.reduceEqDiff, not_false_eq_true, nI_T1, nI_T0, true_and, and_true, k0, k61, nI_addS, nI_cl, rs_in_t]
  refine rs_XM_mono h3 ?_
  rintro w2 v2 ⟨rfl, h4⟩
  simp only [g_L_law_885, lk_L_law, XI, Nat.reduceAdd, Nat.reduceEqDiff, not_false_eq_true, nI_T1, nI_T0, true_and, and_true]
  rw [if_pos trivial]
  exact K w2 h4
theorem L_c_account (h : LI (12, L, fun j => .int (xs j)) m t w) (h7 : i + 7 ≤ L) (hL : L ≤ 3584) (K : ∀ w', LI (12, L, fun j => .int (xs j)) (m + 100) (t + 1000) w' → rs_X (d + 61) x 1099 [some (.ref 0), some (.ref 1), some (.ref 61), some (.int (nI i))] [] w' Q) : rs_X (d + 61) x 890 [some (.ref 0), some (.ref 1), some (.ref 61), some (.int (nI i))] [] w Q := by
  have h0 := LI_0 h
  have h1 := LI_1 h
  simp (disch := omega) only [g_L_law_890, g_L_law_891, g_L_law_892, g_L_law_893, g_L_law_894, g_L_law_895, g_L_law_896, lk_L_law, XI, Nat.reduceAdd, Nat.reduceEqDiff, not_false_eq_true, nI_T1, nI_T0, true_and, and_true, h0, h1, nI_addS, nI_cl, rs_in_t]
  refine rs_XM_mono (law_pair (fun hS => b_account hS _) h d) ?_
  rintro w1 v1 ⟨v, rfl, hrk, k0, k61, h3⟩
  obtain ⟨u, hu⟩ := hrk.1 rt_X11_account
  cases hu
  simp (disch := omega) only [g_L_law_899, g_L_law_900, g_L_law_901, g_L_law_902, g_L_law_903, g_L_law_904, g_L_law_905, lk_L_law, XI, Nat.reduceAdd, Nat.reduceEqDiff, not_false_eq_true, nI_T1, nI_T0, true_and, and_true, k0, k61, nI_addS, nI_cl, rs_in_t]
  refine rs_XM_mono h3 ?_
  rintro w2 v2 ⟨rfl, h4⟩
  simp only [g_L_law_908, lk_L_law, XI, Nat.reduceAdd, Nat.reduceEqDiff, not_false_eq_true, nI_T1, nI_T0, true_and, and_true]
  rw [if_pos trivial]
  exact K w2 h4
theorem L_c_risk (h : LI (12, L, fun j => .int (xs j)) m t w) (h7 : i + 7 ≤ L) (hL : L ≤ 3584) (K : ∀ w', LI (12, L, fun j => .int (xs j)) (m + 100) (t + 1000) w' → rs_X (d + 61) x 1099 [some (.ref 0), some (.ref 1), some (.ref 61), some (.int (nI i))] [] w' Q) : rs_X (d + 61) x 913 [some (.ref 0), some (.ref 1), some (.ref 61), some (.int (nI i))] [] w Q := by
  have h0 := LI_0 h
  have h1 := LI_1 h
  simp (disch := omega) only [g_L_law_913, g_L_law_914, g_L_law_915, g_L_law_916, g_L_law_917, g_L_law_918, g_L_law_919, lk_L_law, XI, Nat.reduceAdd, Nat.reduceEqDiff, not_false_eq_true, nI_T1, nI_T0, true_and, and_true, h0, h1, nI_addS, nI_cl, rs_in_t]
  refine rs_XM_mono (law_pair (fun hS => b_risk hS _) h d) ?_
  rintro w1 v1 ⟨v, rfl, hrk, k0, k61, h3⟩
  obtain ⟨u, hu⟩ := hrk.1 rt_X11_risk
  cases hu
  simp (disch := omega) only [g_L_law_922, g_L_law_923, g_L_law_924, g_L_law_925, g_L_law_926, g_L_law_927, g_L_law_928, lk_L_law, XI, Nat.reduceAdd, Nat.reduceEqDiff, not_false_eq_true, nI_T1, nI_T0, true_and, and_true, k0, k61, nI_addS, nI_cl, rs_in_t]
  refine rs_XM_mono h3 ?_
  rintro w2 v2 ⟨rfl, h4⟩
  simp only [g_L_law_931, lk_L_law, XI, Nat.reduceAdd, Nat.reduceEqDiff, not_false_eq_true, nI_T1, nI_T0, true_and, and_true]
  rw [if_pos trivial]
  exact K w2 h4
theorem L_c_path (h : LI (12, L, fun j => .int (xs j)) m t w) (h7 : i + 7 ≤ L) (hL : L ≤ 3584) (K : ∀ w', LI (12, L, fun j => .int (xs j)) (m + 100) (t + 1000) w' → rs_X (d + 61) x 1099 [some (.ref 0), some (.ref 1), some (.ref 61), some (.int (nI i))] [] w' Q) : rs_X (d + 61) x 936 [some (.ref 0), some (.ref 1), some (.ref 61), some (.int (nI i))] [] w Q := by
  have h0 := LI_0 h
  have h1 := LI_1 h
  simp (disch := omega) only [g_L_law_936, g_L_law_937, g_L_law_938, g_L_law_939, g_L_law_940, g_L_law_941, g_L_law_942, g_L_law_943, g_L_law_944, g_L_law_945, g_L_law_946, g_L_law_947, lk_L_law, XI, Nat.reduceAdd, Nat.reduceEqDiff, not_false_eq_true, nI_T1, nI_T0, true_and, and_true, h0, h1, nI_addS, nI_cl, rs_in_t]
  refine rs_XM_mono (law_pair (fun hS => b_path hS _ _) h d) ?_
  rintro w1 v1 ⟨v, rfl, hrk, k0, k61, h3⟩
  obtain ⟨u, hu⟩ := hrk.1 rt_X11_path
  cases hu
  simp (disch := omega) only [g_L_law_950, g_L_law_951, g_L_law_952, g_L_law_953, g_L_law_954, g_L_law_955, g_L_law_956, g_L_law_957, g_L_law_958, g_L_law_959, g_L_law_960, g_L_law_961, lk_L_law, XI, Nat.reduceAdd, Nat.reduceEqDiff, not_false_eq_true, nI_T1, nI_T0, true_and, and_true, k0, k61, nI_addS, nI_cl, rs_in_t]
  refine rs_XM_mono h3 ?_
  rintro w2 v2 ⟨rfl, h4⟩
  simp only [g_L_law_964, lk_L_law, XI, Nat.reduceAdd, Nat.reduceEqDiff, not_false_eq_true, nI_T1, nI_T0, true_and, and_true]
  rw [if_pos trivial]
  exact K w2 h4
theorem L_c_again (h : LI (12, L, fun j => .int (xs j)) m t w) (h7 : i + 7 ≤ L) (hL : L ≤ 3584) (K : ∀ w', LI (12, L, fun j => .int (xs j)) (m + 100) (t + 1000) w' → rs_X (d + 61) x 1099 [some (.ref 0), some (.ref 1), some (.ref 61), some (.int (nI i))] [] w' Q) : rs_X (d + 61) x 969 [some (.ref 0), some (.ref 1), some (.ref 61), some (.int (nI i))] [] w Q := by
  have h0 := LI_0 h
  have h1 := LI_1 h
  simp (disch := omega) only [g_L_law_969, g_L_law_970, g_L_law_971, g_L_law_972, g_L_law_973, g_L_law_974, g_L_law_975, g_L_law_976, g_L_law_977, g_L_law_978, g_L_law_979, g_L_law_980, lk_L_law, XI, Nat.reduceAdd, Nat.reduceEqDiff, not_false_eq_true, nI_T1, nI_T0, true_and, and_true, h0, h1, nI_addS, nI_cl, rs_in_t]
  refine rs_XM_mono (law_pair (fun hS => b_again hS _ _) h d) ?_
  rintro w1 v1 ⟨v, rfl, hrk, k0, k61, h3⟩
  obtain ⟨u, hu⟩ := hrk.2 rt_X11_again
  cases hu
  simp (disch := omega) only [g_L_law_983, g_L_law_984, g_L_law_985, g_L_law_986, g_L_law_987, g_L_law_988, g_L_law_989, g_L_law_990, g_L_law_991, g_L_law_992, g_L_law_993, g_L_law_994, lk_L_law, XI, Nat.reduceAdd, Nat.reduceEqDiff, not_false_eq_true, nI_T1, nI_T0, true_and, and_true, k0, k61, nI_addS, nI_cl, rs_in_t]
  refine rs_XM_mono h3 ?_
  rintro w2 v2 ⟨rfl, h4⟩
  simp only [g_L_law_997, g_L_law_998, lk_L_law, XI, Nat.reduceAdd, Nat.reduceEqDiff, not_false_eq_true, nI_T1, nI_T0, true_and, and_true]
  rw [if_pos ((lg_cmp_eq _ _).mpr rfl)]
  exact K w2 h4
theorem L_c_possible (h : LI (12, L, fun j => .int (xs j)) m t w) (h7 : i + 7 ≤ L) (hL : L ≤ 3584) (K : ∀ w', LI (12, L, fun j => .int (xs j)) (m + 100) (t + 1000) w' → rs_X (d + 61) x 1099 [some (.ref 0), some (.ref 1), some (.ref 61), some (.int (nI i))] [] w' Q) : rs_X (d + 61) x 1003 [some (.ref 0), some (.ref 1), some (.ref 61), some (.int (nI i))] [] w Q := by
  have h0 := LI_0 h
  have h1 := LI_1 h
  simp (disch := omega) only [g_L_law_1003, g_L_law_1004, g_L_law_1005, g_L_law_1006, g_L_law_1007, g_L_law_1008, g_L_law_1009, g_L_law_1010, g_L_law_1011, g_L_law_1012, g_L_law_1013, g_L_law_1014, lk_L_law, XI, Nat.reduceAdd, Nat.reduceEqDiff, not_false_eq_true, nI_T1, nI_T0, true_and, and_true, h0, h1, nI_addS, nI_cl, rs_in_t]
  refine rs_XM_mono (law_pair (fun hS => b_possible hS _ _) h d) ?_
  rintro w1 v1 ⟨v, rfl, hrk, k0, k61, h3⟩
  obtain ⟨u, hu⟩ := hrk.2 rt_X11_possible
  cases hu
  simp (disch := omega) only [g_L_law_1017, g_L_law_1018, g_L_law_1019, g_L_law_1020, g_L_law_1021, g_L_law_1022, g_L_law_1023, g_L_law_1024, g_L_law_1025, g_L_law_1026, g_L_law_1027, g_L_law_1028, lk_L_law, XI, Nat.reduceAdd, Nat.reduceEqDiff, not_false_eq_true, nI_T1, nI_T0, true_and, and_true, k0, k61, nI_addS, nI_cl, rs_in_t]
  refine rs_XM_mono h3 ?_
  rintro w2 v2 ⟨rfl, h4⟩
  simp only [g_L_law_1031, g_L_law_1032, lk_L_law, XI, Nat.reduceAdd, Nat.reduceEqDiff, not_false_eq_true, nI_T1, nI_T0, true_and, and_true]
  rw [if_pos ((lg_cmp_eq _ _).mpr rfl)]
  exact K w2 h4
theorem L_c_back (h : LI (12, L, fun j => .int (xs j)) m t w) (h7 : i + 7 ≤ L) (hL : L ≤ 3584) (K : ∀ w', LI (12, L, fun j => .int (xs j)) (m + 100) (t + 1000) w' → rs_X (d + 61) x 1099 [some (.ref 0), some (.ref 1), some (.ref 61), some (.int (nI i))] [] w' Q) : rs_X (d + 61) x 1037 [some (.ref 0), some (.ref 1), some (.ref 61), some (.int (nI i))] [] w Q := by
  have h0 := LI_0 h
  have h1 := LI_1 h
  simp (disch := omega) only [g_L_law_1037, g_L_law_1038, lk_L_law, XI, Nat.reduceAdd, Nat.reduceEqDiff, not_false_eq_true, nI_T1, nI_T0, true_and, and_true, h0, h1, nI_addS, nI_cl, rs_in_t]
  refine rs_XM_mono (law_pair (fun hS => b_back hS) h d) ?_
  rintro w1 v1 ⟨v, rfl, hrk, k0, k61, h3⟩
  obtain ⟨u, hu⟩ := hrk.1 rt_X11_back
  cases hu
  simp (disch := omega) only [g_L_law_1041, g_L_law_1042, lk_L_law, XI, Nat.reduceAdd, Nat.reduceEqDiff, not_false_eq_true, nI_T1, nI_T0, true_and, and_true, k0, k61, nI_addS, nI_cl, rs_in_t]
  refine rs_XM_mono h3 ?_
  rintro w2 v2 ⟨rfl, h4⟩
  simp only [g_L_law_1045, lk_L_law, XI, Nat.reduceAdd, Nat.reduceEqDiff, not_false_eq_true, nI_T1, nI_T0, true_and, and_true]
  rw [if_pos trivial]
  exact K w2 h4
theorem L_c_image (h : LI (12, L, fun j => .int (xs j)) m t w) (h7 : i + 7 ≤ L) (hL : L ≤ 3584) (K : ∀ w', LI (12, L, fun j => .int (xs j)) (m + 100) (t + 1000) w' → rs_X (d + 61) x 1099 [some (.ref 0), some (.ref 1), some (.ref 61), some (.int (nI i))] [] w' Q) : rs_X (d + 61) x 1050 [some (.ref 0), some (.ref 1), some (.ref 61), some (.int (nI i))] [] w Q := by
  have h0 := LI_0 h
  have h1 := LI_1 h
  simp (disch := omega) only [g_L_law_1050, g_L_law_1051, lk_L_law, XI, Nat.reduceAdd, Nat.reduceEqDiff, not_false_eq_true, nI_T1, nI_T0, true_and, and_true, h0, h1, nI_addS, nI_cl, rs_in_t]
  refine rs_XM_mono (law_pair (fun hS => b_image hS) h d) ?_
  rintro w1 v1 ⟨v, rfl, hrk, k0, k61, h3⟩
  obtain ⟨u, hu⟩ := hrk.1 rt_X11_image
  cases hu
  simp (disch := omega) only [g_L_law_1054, g_L_law_1055, lk_L_law, XI, Nat.reduceAdd, Nat.reduceEqDiff, not_false_eq_true, nI_T1, nI_T0, true_and, and_true, k0, k61, nI_addS, nI_cl, rs_in_t]
  refine rs_XM_mono h3 ?_
  rintro w2 v2 ⟨rfl, h4⟩
  simp only [g_L_law_1058, lk_L_law, XI, Nat.reduceAdd, Nat.reduceEqDiff, not_false_eq_true, nI_T1, nI_T0, true_and, and_true]
  rw [if_pos trivial]
  exact K w2 h4
theorem L_c_undo (h : LI (12, L, fun j => .int (xs j)) m t w) (h7 : i + 7 ≤ L) (hL : L ≤ 3584) (K : ∀ w', LI (12, L, fun j => .int (xs j)) (m + 100) (t + 1000) w' → rs_X (d + 61) x 1099 [some (.ref 0), some (.ref 1), some (.ref 61), some (.int (nI i))] [] w' Q) : rs_X (d + 61) x 1063 [some (.ref 0), some (.ref 1), some (.ref 61), some (.int (nI i))] [] w Q := by
  have h0 := LI_0 h
  have h1 := LI_1 h
  simp (disch := omega) only [g_L_law_1063, g_L_law_1064, lk_L_law, XI, Nat.reduceAdd, Nat.reduceEqDiff, not_false_eq_true, nI_T1, nI_T0, true_and, and_true, h0, h1, nI_addS, nI_cl, rs_in_t]
  refine rs_XM_mono (law_pair (fun hS => b_undo hS) h d) ?_
  rintro w1 v1 ⟨v, rfl, hrk, k0, k61, h3⟩
  obtain ⟨u, hu⟩ := hrk.1 rt_X11_undo
  cases hu
  simp (disch := omega) only [g_L_law_1067, g_L_law_1068, lk_L_law, XI, Nat.reduceAdd, Nat.reduceEqDiff, not_false_eq_true, nI_T1, nI_T0, true_and, and_true, k0, k61, nI_addS, nI_cl, rs_in_t]
  refine rs_XM_mono h3 ?_
  rintro w2 v2 ⟨rfl, h4⟩
  simp only [g_L_law_1071, lk_L_law, XI, Nat.reduceAdd, Nat.reduceEqDiff, not_false_eq_true, nI_T1, nI_T0, true_and, and_true]
  rw [if_pos trivial]
  exact K w2 h4
theorem L_c_count (h : LI (12, L, fun j => .int (xs j)) m t w) (h7 : i + 7 ≤ L) (hL : L ≤ 3584) (K : ∀ w', LI (12, L, fun j => .int (xs j)) (m + 100) (t + 1000) w' → rs_X (d + 61) x 1099 [some (.ref 0), some (.ref 1), some (.ref 61), some (.int (nI i))] [] w' Q) : rs_X (d + 61) x 1076 [some (.ref 0), some (.ref 1), some (.ref 61), some (.int (nI i))] [] w Q := by
  have h0 := LI_0 h
  have h1 := LI_1 h
  simp (disch := omega) only [g_L_law_1076, g_L_law_1077, g_L_law_1078, g_L_law_1079, g_L_law_1080, g_L_law_1081, g_L_law_1082, lk_L_law, XI, Nat.reduceAdd, Nat.reduceEqDiff, not_false_eq_true, nI_T1, nI_T0, true_and, and_true, h0, h1, nI_addS, nI_cl, rs_in_t]
  refine rs_XM_mono (law_pair (fun hS => b_count hS _) h d) ?_
  rintro w1 v1 ⟨v, rfl, hrk, k0, k61, h3⟩
  obtain ⟨u, hu⟩ := hrk.1 rt_X11_count
  cases hu
  simp (disch := omega) only [g_L_law_1085, g_L_law_1086, g_L_law_1087, g_L_law_1088, g_L_law_1089, g_L_law_1090, g_L_law_1091, lk_L_law, XI, Nat.reduceAdd, Nat.reduceEqDiff, not_false_eq_true, nI_T1, nI_T0, true_and, and_true, k0, k61, nI_addS, nI_cl, rs_in_t]
  refine rs_XM_mono h3 ?_
  rintro w2 v2 ⟨rfl, h4⟩
  simp only [g_L_law_1094, lk_L_law, XI, Nat.reduceAdd, Nat.reduceEqDiff, not_false_eq_true, nI_T1, nI_T0, true_and, and_true]
  rw [if_pos trivial]
  exact K w2 h4
theorem L_le (hL : L ≤ 3584) (hi : i ≤ 3584) : (nI L - nI 7 < nI i) ↔ L < i + 7 := by
  rw [Int32.lt_iff_toInt_lt, pk_sub_toInt (by omega) (by decide), nI_toInt (by omega)]
  omega
theorem L_loop (hL : L ≤ 3584) (hQ : ∀ w, w.2.1 ≤ 600001 → w.2.2 ≤ 7302250 → Q w (some (.int 1))) : ∀ (j i m t : Nat) (w : rs_H), L < i + 7 * j + 7 → i ≤ L → LI (12, L, fun j => .int (xs j)) m t w → m + 100 * j ≤ 600001 → t + 1000 * j ≤ 7302250 → rs_X (d + 61) x 18 [some (.ref 0), some (.ref 1), some (.ref 61), some (.int (nI i))] [] w Q := by
  intro j
  induction j with
  | zero =>
    intro i m t w hj hi h hm ht
    have h0 := LI_0 h
    obtain ⟨w1, w2⟩ := LI_n h
    rw [g_L_law_18]
    simp (disch := omega) only [g_L_law_19, g_L_law_20, g_L_law_21, g_L_law_23, g_L_law_24, lk_L_law, XI, Nat.reduceAdd, Nat.reduceEqDiff, not_false_eq_true, nI_T1, nI_T0, true_and, and_true, h0]
    rw [if_pos ((L_le hL (by omega)).mpr (by omega))]
    simp only [g_L_law_1105, g_L_law_1106, lk_L_law, XI, Nat.reduceAdd, Nat.reduceEqDiff, not_false_eq_true, nI_T1, nI_T0, true_and, and_true]
    exact hQ w (by omega) (by omega)
  | succ j ih =>
    intro i m t w hj hi h hm ht
    have h0 := LI_0 h
    rw [g_L_law_18]
    simp (disch := omega) only [g_L_law_19, g_L_law_20, g_L_law_21, g_L_law_23, g_L_law_24, lk_L_law, XI, Nat.reduceAdd, Nat.reduceEqDiff, not_false_eq_true, nI_T1, nI_T0, true_and, and_true, h0]
    by_cases hc : L < i + 7
    · obtain ⟨w1, w2⟩ := LI_n h
      rw [if_pos ((L_le hL (by omega)).mpr hc)]
      simp only [g_L_law_1105, g_L_law_1106, lk_L_law, XI, Nat.reduceAdd, Nat.reduceEqDiff, not_false_eq_true, nI_T1, nI_T0, true_and, and_true]
      exact hQ w (by omega) (by omega)
    · rw [if_neg (fun z => hc ((L_le hL (by omega)).mp z))]
      have h7 : i + 7 ≤ L := by omega
      have K : ∀ w', LI (12, L, fun j => .int (xs j)) (m + 100) (t + 1000) w' → rs_X (d + 61) x 1099 [some (.ref 0), some (.ref 1), some (.ref 61), some (.int (nI i))] [] w' Q := by
        intro w' h'
        simp (disch := omega) only [g_L_law_1099, g_L_law_1102, lk_L_law, XI, Nat.reduceAdd, Nat.reduceEqDiff, not_false_eq_true, nI_T1, nI_T0, true_and, and_true, nI_addS]
        exact ih (i + 7) (m + 100) (t + 1000) w' (by omega) h7 h' (by omega) (by omega)
      simp (disch := omega) only [g_L_law_27, g_L_law_28, g_L_law_29, g_L_law_30, g_L_law_32, lk_L_law, XI, Nat.reduceAdd, Nat.reduceEqDiff, not_false_eq_true, nI_T1, nI_T0, true_and, and_true, h0, nI_cl, rs_in_t]
      rw [g_L_law_33, xi_switch]
      generalize xs i &&& nI 31 = v
      by_cases e0 : v = nI 0
      · rw [rs_sw_s, if_pos e0]
        exact L_c_feed h h7 hL K
      rw [rs_sw_s, if_neg e0]
      by_cases e1 : v = nI 1
      · rw [rs_sw_s, if_pos e1]
        exact L_c_read h h7 hL K
      rw [rs_sw_s, if_neg e1]
      by_cases e2 : v = nI 2
      · rw [rs_sw_s, if_pos e2]
        exact L_c_removeRecipe h h7 hL K
      rw [rs_sw_s, if_neg e2]
      by_cases e3 : v = nI 3
      · rw [rs_sw_s, if_pos e3]
        exact L_c_density h h7 hL K
      rw [rs_sw_s, if_neg e3]
      by_cases e4 : v = nI 4
      · rw [rs_sw_s, if_pos e4]
        exact L_c_weight h h7 hL K
      rw [rs_sw_s, if_neg e4]
      by_cases e5 : v = nI 5
      · rw [rs_sw_s, if_pos e5]
        exact L_c_allergens h h7 hL K
      rw [rs_sw_s, if_neg e5]
      by_cases e6 : v = nI 6
      · rw [rs_sw_s, if_pos e6]
        exact L_c_stock h h7 hL K
      rw [rs_sw_s, if_neg e6]
      by_cases e7 : v = nI 7
      · rw [rs_sw_s, if_pos e7]
        exact L_c_pack h h7 hL K
      rw [rs_sw_s, if_neg e7]
      by_cases e8 : v = nI 8
      · rw [rs_sw_s, if_pos e8]
        exact L_c_removePack h h7 hL K
      rw [rs_sw_s, if_neg e8]
      by_cases e9 : v = nI 9
      · rw [rs_sw_s, if_pos e9]
        exact L_c_substitute h h7 hL K
      rw [rs_sw_s, if_neg e9]
      by_cases e10 : v = nI 10
      · rw [rs_sw_s, if_pos e10]
        exact L_c_removeSubstitution h h7 hL K
      rw [rs_sw_s, if_neg e10]
      by_cases e11 : v = nI 11
      · rw [rs_sw_s, if_pos e11]
        exact L_c_scale h h7 hL K
      rw [rs_sw_s, if_neg e11]
      by_cases e12 : v = nI 12
      · rw [rs_sw_s, if_pos e12]
        exact L_c_pan h h7 hL K
      rw [rs_sw_s, if_neg e12]
      by_cases e13 : v = nI 13
      · rw [rs_sw_s, if_pos e13]
        exact L_c_buy h h7 hL K
      rw [rs_sw_s, if_neg e13]
      by_cases e14 : v = nI 14
      · rw [rs_sw_s, if_pos e14]
        exact L_c_recipe h h7 hL K
      rw [rs_sw_s, if_neg e14]
      by_cases e15 : v = nI 15
      · rw [rs_sw_s, if_pos e15]
        exact L_c_item h h7 hL K
      rw [rs_sw_s, if_neg e15]
      by_cases e16 : v = nI 16
      · rw [rs_sw_s, if_pos e16]
        exact L_c_needed h h7 hL K
      rw [rs_sw_s, if_neg e16]
      by_cases e17 : v = nI 17
      · rw [rs_sw_s, if_pos e17]
        exact L_c_reason h h7 hL K
      rw [rs_sw_s, if_neg e17]
      by_cases e18 : v = nI 18
      · rw [rs_sw_s, if_pos e18]
        exact L_c_applied h h7 hL K
      rw [rs_sw_s, if_neg e18]
      by_cases e19 : v = nI 19
      · rw [rs_sw_s, if_pos e19]
        exact L_c_shopping h h7 hL K
      rw [rs_sw_s, if_neg e19]
      by_cases e20 : v = nI 20
      · rw [rs_sw_s, if_pos e20]
        exact L_c_account h h7 hL K
      rw [rs_sw_s, if_neg e20]
      by_cases e21 : v = nI 21
      · rw [rs_sw_s, if_pos e21]
        exact L_c_risk h h7 hL K
      rw [rs_sw_s, if_neg e21]
      by_cases e22 : v = nI 22
      · rw [rs_sw_s, if_pos e22]
        exact L_c_path h h7 hL K
      rw [rs_sw_s, if_neg e22]
      by_cases e23 : v = nI 23
      · rw [rs_sw_s, if_pos e23]
        exact L_c_again h h7 hL K
      rw [rs_sw_s, if_neg e23]
      by_cases e24 : v = nI 24
      · rw [rs_sw_s, if_pos e24]
        exact L_c_possible h h7 hL K
      rw [rs_sw_s, if_neg e24]
      by_cases e25 : v = nI 25
      · rw [rs_sw_s, if_pos e25]
        exact L_c_back h h7 hL K
      rw [rs_sw_s, if_neg e25]
      by_cases e26 : v = nI 26
      · rw [rs_sw_s, if_pos e26]
        exact L_c_image h h7 hL K
      rw [rs_sw_s, if_neg e26]
      by_cases e27 : v = nI 27
      · rw [rs_sw_s, if_pos e27]
        exact L_c_undo h h7 hL K
      rw [rs_sw_s, if_neg e27]
      by_cases e28 : v = nI 28
      · rw [rs_sw_s, if_pos e28]
        exact L_c_count h h7 hL K
      rw [rs_sw_s, if_neg e28]
      exact K w (LI_m h (by omega) (by omega))
end
