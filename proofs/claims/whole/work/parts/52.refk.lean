/-! the reference's row, in parts; what is kept of it -/
theorem mIt_c {f g : Nat → Int32} {p : Nat} {t : It} (h : ∀ j, p ≤ j → j < p + 4 → g j = f j) (hm : mIt f p t) : mIt g p t := by
  obtain ⟨h1, h2, h3, h4⟩ := hm
  exact ⟨by rw [h p (by omega) (by omega)]; exact h1, by rw [h (p + 1) (by omega) (by omega)]; exact h2, by rw [h (p + 2) (by omega) (by omega)]; exact h3, by rw [h (p + 3) (by omega) (by omega)]; exact h4⟩
theorem mRc_c {f g : Nat → Int32} {r : Nat} {o : Option Rc} (ho : ∀ Z, o = some Z → Z.ok) (h : ∀ j, 30 * r ≤ j → j < 30 * r + 30 → g j = f j) (hm : mRc f r o) : mRc g r o := by
  cases o with
  | none => exact ⟨by rw [h _ (by omega) (by omega)]; exact hm.1, by rw [h _ (by omega) (by omega)]; exact hm.2⟩
  | some Z =>
    obtain ⟨h1, h2, h3, h4, h5, h6, h7⟩ := hm
    have hl := (ho Z rfl).2.1
    refine ⟨by rw [h _ (by omega) (by omega)]; exact h1, by rw [h _ (by omega) (by omega)]; exact h2, by rw [h _ (by omega) (by omega)]; exact h3, by rw [h _ (by omega) (by omega)]; exact h4, by rw [h _ (by omega) (by omega)]; exact h5, by rw [h _ (by omega) (by omega)]; exact h6, ?_⟩
    intro k t hk
    have hk6 := (List.getElem?_eq_some_iff.mp hk).1
    exact mIt_c (fun j a b => h j (by omega) (by omega)) (h7 k t hk)
theorem mFr_c {f g : Nat → Int32} {p : Nat} {o : Option (Nat × Nat)} (h : ∀ j, p ≤ j → j < p + 2 → g j = f j) (hm : mFr f p o) : mFr g p o := by
  cases o with
  | none => exact ⟨by rw [h _ (by omega) (by omega)]; exact hm.1, by rw [h _ (by omega) (by omega)]; exact hm.2⟩
  | some Z => exact ⟨by rw [h _ (by omega) (by omega)]; exact hm.1, by rw [h _ (by omega) (by omega)]; exact hm.2⟩
theorem mIg_c {f g : Nat → Int32} {i : Nat} {x : Ig} (hx : x.ok) (h : ∀ j, 240 + 14 * i ≤ j → j < 240 + 14 * i + 14 → g j = f j) (hm : mIg f i x) : mIg g i x := by
  obtain ⟨h1, h2, h3, h4, h5, h6, h7⟩ := hm
  have hl := hx.2.2.2.2.2.1
  refine ⟨mFr_c (fun j a b => h j (by omega) (by omega)) h1, mFr_c (fun j a b => h j (by omega) (by omega)) h2, by rw [h _ (by omega) (by omega)]; exact h3, by rw [h _ (by omega) (by omega)]; exact h4, by rw [h _ (by omega) (by omega)]; exact h5, by rw [h _ (by omega) (by omega)]; exact h6, ?_⟩
  intro k p hk
  have hk3 := (List.getElem?_eq_some_iff.mp hk).1
  rw [h _ (by omega) (by omega), h _ (by omega) (by omega)]
  exact h7 k p hk
theorem mSb_c {f g : Nat → Int32} {p : Nat} {t : Sb} (h : ∀ j, p ≤ j → j < p + 6 → g j = f j) (hm : mSb f p t) : mSb g p t := by
  obtain ⟨h1, h2, h3, h4, h5, h6⟩ := hm
  exact ⟨by rw [h _ (by omega) (by omega)]; exact h1, by rw [h _ (by omega) (by omega)]; exact h2, by rw [h _ (by omega) (by omega)]; exact h3, by rw [h _ (by omega) (by omega)]; exact h4, by rw [h _ (by omega) (by omega)]; exact h5, by rw [h _ (by omega) (by omega)]; exact h6⟩
theorem mPl_c {f g : Nat → Int32} {o : Option (Nat × (Nat × Nat))} (h : ∀ j, 445 ≤ j → j < 448 → g j = f j) (hm : mPl f o) : mPl g o := by
  cases o with
  | none => exact (h 445 (by omega) (by omega)).trans hm
  | some p => exact ⟨(h 445 (by omega) (by omega)).trans hm.1, (h 446 (by omega) (by omega)).trans hm.2.1, (h 447 (by omega) (by omega)).trans hm.2.2⟩
theorem mDt_c {f g : Nat → Int32} {D : Dt} (hD : D.ok) (h : ∀ j, j < 448 → g j = f j) (hm : mDt f D) : mDt g D := by
  obtain ⟨h1, h2, h3, h4, h5⟩ := hm
  have hl := hD.2.2.1
  refine ⟨fun r hr => mRc_c (fun Z e => (hD.1 r Z e).2) (fun j a b => h j (by omega)) (h1 r hr), fun i hi => mIg_c (hD.2.1 i hi) (fun j a b => h j (by omega)) (h2 i hi), (h 408 (by omega)).trans h3, ?_, mPl_c (fun j a b => h j (by omega)) h5⟩
  intro k t hk
  have hk6 := (List.getElem?_eq_some_iff.mp hk).1
  exact mSb_c (fun j a b => h j (by omega)) (h4 k t hk)
/-- one ingredient's stretch laid anew -/
theorem mDt_I {f g : Nat → Int32} {D : Dt} (hD : D.ok) {i : Nat} (hi : i < 12) {x : Ig} (h : ∀ j, j < 240 + 14 * i ∨ 240 + 14 * i + 14 ≤ j → g j = f j) (hx : mIg g i x) (hm : mDt f D) : mDt g (D.setI i x) := by
  obtain ⟨h1, h2, h3, h4, h5⟩ := hm
  have hl := hD.2.2.1
  refine ⟨fun r hr => mRc_c (fun Z e => (hD.1 r Z e).2) (fun j a b => h j (by omega)) (h1 r hr), ?_, (h 408 (by omega)).trans h3, ?_, mPl_c (fun j a b => h j (by omega)) h5⟩
  · intro j hj
    rw [Dt.setI_ig]
    by_cases e : j = i
    · rw [if_pos e, e]
      exact hx
    · rw [if_neg e]
      exact mIg_c (hD.2.1 j hj) (fun k a b => h k (by omega)) (h2 j hj)
  · intro k t hk
    have hk6 := (List.getElem?_eq_some_iff.mp hk).1
    exact mSb_c (fun j a b => h j (by omega)) (h4 k t hk)
theorem mDt_R {f g : Nat → Int32} {D : Dt} (hD : D.ok) {r : Nat} (hr : r < 8) {o : Option Rc} (h : ∀ j, j < 30 * r ∨ 30 * r + 30 ≤ j → g j = f j) (hx : mRc g r o) (hm : mDt f D) : mDt g (D.setR r o) := by
  obtain ⟨h1, h2, h3, h4, h5⟩ := hm
  have hl := hD.2.2.1
  refine ⟨?_, fun i hi => mIg_c (hD.2.1 i hi) (fun j a b => h j (by omega)) (h2 i hi), (h 408 (by omega)).trans h3, ?_, mPl_c (fun j a b => h j (by omega)) h5⟩
  · intro j hj
    rw [Dt.setR_rc]
    by_cases e : j = r
    · rw [if_pos e, e]
      exact hx
    · rw [if_neg e]
      exact mRc_c (fun Z e => (hD.1 j Z e).2) (fun k a b => h k (by omega)) (h1 j hj)
  · intro k t hk
    have hk6 := (List.getElem?_eq_some_iff.mp hk).1
    exact mSb_c (fun j a b => h j (by omega)) (h4 k t hk)
theorem mDt_P {f g : Nat → Int32} {D : Dt} (hD : D.ok) {o : Option (Nat × (Nat × Nat))} (h : ∀ j, j < 445 → g j = f j) (hx : mPl g o) (hm : mDt f D) : mDt g (D.setP o) := by
  obtain ⟨h1, h2, h3, h4, h5⟩ := hm
  have hl := hD.2.2.1
  refine ⟨fun r hr => mRc_c (fun Z e => (hD.1 r Z e).2) (fun j a b => h j (by omega)) (h1 r hr), fun i hi => mIg_c (hD.2.1 i hi) (fun j a b => h j (by omega)) (h2 i hi), (h 408 (by omega)).trans h3, ?_, hx⟩
  intro k t hk
  have hk6 : k < D.sb.length := (List.getElem?_eq_some_iff.mp hk).1
  exact mSb_c (fun j a b => h j (by omega)) (h4 k t hk)
theorem mDt_S {f g : Nat → Int32} {D : Dt} (hD : D.ok) {l : List Sb} (h : ∀ j, j < 408 ∨ 445 ≤ j → g j = f j) (hl : g 408 = nI l.length) (hx : ∀ (k : Nat) (t : Sb), l[k]? = some t → mSb g (409 + 6 * k) t) (hm : mDt f D) : mDt g (D.setS l) := by
  obtain ⟨h1, h2, h3, h4, h5⟩ := hm
  exact ⟨fun r hr => mRc_c (fun Z e => (hD.1 r Z e).2) (fun j a b => h j (by omega)) (h1 r hr), fun i hi => mIg_c (hD.2.1 i hi) (fun j a b => h j (by omega)) (h2 i hi), hl, hx, mPl_c (fun j a b => h j (by omega)) h5⟩
theorem kpI_ne (I : Nat → Nat → Int32) (c : Nat) {q j : Nat} (h1 : ¬ (q = 61 ∧ j = 4)) (h2 : ¬ q = 64) : kpI I c q j = I q j := by
  unfold kpI
  split
  · rw [rs_u2_ne _ _ h1, cpU_ne _ _ _ _ _ _ h2, rs_u2_ne _ _ h1, cpU_ne _ _ _ _ _ _ h2]
  · rw [rs_u2_ne _ _ h1, cpU_ne _ _ _ _ _ _ h2]
theorem kpI_4 (I : Nat → Nat → Int32) {c : Nat} : kpI I c 61 4 = nI ((if c = 8 then 7 else c) + 1) := by
  unfold kpI
  split
  · rw [rs_u2_eq]
  · rw [rs_u2_eq]
theorem kpI_new (I : Nat → Nat → Int32) (c : Nat) {j : Nat} (hj : j < 448) : kpI I c 64 (448 * (if c = 8 then 7 else c) + j) = I 62 j := by
  unfold kpI
  split
  · rw [rs_u2_ne _ _ (by omega), cpU_in _ _ _ _ _ (by omega) (by omega)]
    rw [show 448 * 7 + j - 3136 = j by omega]
  · rw [rs_u2_ne _ _ (by omega), cpU_in _ _ _ _ _ (by omega) (by omega)]
    rw [show 448 * c + j - 448 * c = j by omega]
theorem kpI_old (I : Nat → Nat → Int32) (c : Nat) {k j : Nat} (hk : k < (if c = 8 then 7 else c)) (hj : j < 448) : kpI I c 64 (448 * k + j) = I 64 (448 * (if c = 8 then k + 1 else k) + j) := by
  unfold kpI
  by_cases e : c = 8
  · rw [if_pos e] at hk ⊢
    rw [if_pos e, rs_u2_ne _ _ (by omega), cpU_out _ _ _ _ _ (by omega), rs_u2_ne _ _ (by omega), cpU_in _ _ _ _ _ (by omega) (by omega)]
    rw [show 448 * k + j + 448 = 448 * (k + 1) + j by omega]
  · rw [if_neg e] at hk ⊢
    rw [if_neg e, rs_u2_ne _ _ (by omega), cpU_out _ _ _ _ _ (by omega)]
theorem RI_keep {I I' : Nat → Nat → Int32} {D D' : Dt} {Ds : Option Dt} {L : List Dt} {tp : List Nat} {rea : Int32} (hS : SOk D Ds L tp) (h : RI I D Ds L tp rea) (h62 : mDt (I' 62) D') (he : ∀ q j, ¬ q = 62 → ¬ (q = 61 ∧ j = 8) → I' q j = kpI I L.length q j) : RI I' D' Ds (nxL L D) tp rea := by
  obtain ⟨a1, a2, a3, a4, a5, a6, a7, a8⟩ := h
  have e61 : ∀ j, ¬ j = 4 → ¬ j = 8 → I' 61 j = I 61 j := fun j h1 h2 => by rw [he 61 j (by decide) (by omega), kpI_ne _ _ (by omega) (by decide)]
  have e63 : ∀ j, I' 63 j = I 63 j := fun j => by rw [he 63 j (by decide) (by omega), kpI_ne _ _ (by omega) (by decide)]
  have e65 : ∀ j, I' 65 j = I 65 j := fun j => by rw [he 65 j (by decide) (by omega), kpI_ne _ _ (by omega) (by decide)]
  have f63 : I' 63 = I 63 := funext e63
  refine ⟨h62, ?_, ?_, ?_, by rw [e61 5 (by decide) (by decide)]; exact a5, by rw [e61 9 (by decide) (by decide)]; exact a6, fun k v e => by rw [e65]; exact a7 k v e, by rw [e61 32 (by decide) (by decide), e61 33 (by decide) (by decide), e61 34 (by decide) (by decide)]; exact a8⟩
  · unfold rSnap at a2 ⊢
    cases Ds with
    | none => rw [e61 2 (by decide) (by decide)]; exact a2
    | some X => rw [e61 2 (by decide) (by decide), f63]; exact a2
  · rw [he 61 4 (by decide) (by omega), kpI_4, nxL_len D hS.2.2.1]
  · intro k X hk
    rcases nxL_get hS.2.2.1 hk with ⟨e1, e2⟩ | ⟨e1, e2⟩
    · rw [e2]
      refine mDt_c hS.1 (fun j hj => ?_) a1
      rw [he 64 _ (by decide) (by omega), e1, kpI_new I _ hj]
    · refine mDt_c (hS.2.2.2.1 _ X e2) (fun j hj => ?_) (a4 _ X e2)
      rw [he 64 _ (by decide) (by omega), kpI_old I _ e1 hj]
theorem kpI_R (I : Nat → Nat → Int32) (c : Nat) : fR I (kpI I c) := fun q j h => kpI_ne I c (by omega) (by omega)
