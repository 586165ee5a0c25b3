theorem rs_gof {y : MethodName} {pc : Nat} {q : rs_I} (h : rs_dec y pc = some q) (d : Nat) (L : rs_L) (st : List Value) (w : rs_H) (Q : rs_H → Option Value → Prop) : rs_X d y pc L st w Q ↔ rs_XD d y L st w Q (some q) := by
  rw [rs_go, h]
def rs_decC (cd : ByteArray) (own : String) (pc : Nat) : Option rs_I := match decode cd pc with
  | .error _ => none
  | .ok r => if rs_okI pc r.2 r.1 = true then some (r.1, r.2, pc + r.2, ((pc : Int) + rs_off r.1).toNat, rs_cs pc r.1, rs_cv own r.1) else none
theorem rs_decC_s {y : MethodName} {cd : ByteArray} {n : Nat} {r : Option FieldType} (h : rs_code y = some (cd, n, r)) (pc : Nat) : rs_dec y pc = rs_decC cd y.cls pc := by
  unfold rs_dec
  rw [h]
  rfl
def rs_eqI (a b : rs_I) : Bool := decide (a.1 = b.1) && (decide (a.2.1 = b.2.1) && (decide (a.2.2.1 = b.2.2.1) && (decide (a.2.2.2.1 = b.2.2.2.1) && (decide (a.2.2.2.2.1 = b.2.2.2.2.1) && decide (a.2.2.2.2.2 = b.2.2.2.2.2)))))
theorem rs_eqI_s {a b : rs_I} (h : rs_eqI a b = true) : a = b := by
  unfold rs_eqI at h
  simp only [Bool.and_eq_true, decide_eq_true_eq] at h
  obtain ⟨a1, a2, a3, a4, a5, a6⟩ := a
  obtain ⟨b1, b2, b3, b4, b5, b6⟩ := b
  obtain ⟨h1, h2, h3, h4, h5, h6⟩ := h
  dsimp only at h1 h2 h3 h4 h5 h6
  rw [h1, h2, h3, h4, h5, h6]
def rs_dok (o : Option rs_I) (q : rs_I) : Bool := match o with
  | some p => rs_eqI p q
  | none => false
theorem rs_dok_s {o : Option rs_I} {q : rs_I} (h : rs_dok o q = true) : o = some q := by
  cases o with
  | none => cases h
  | some p => rw [rs_eqI_s h]
theorem rs_gog {y : MethodName} {cd : ByteArray} {n : Nat} {r : Option FieldType} (h : rs_code y = some (cd, n, r)) {own : String} (ho : y.cls = own) {pc : Nat} {q : rs_I} (hq : rs_dok (rs_decC cd own pc) q = true) (d : Nat) (L : rs_L) (st : List Value) (w : rs_H) (Q : rs_H → Option Value → Prop) : rs_X d y pc L st w Q ↔ rs_XD d y L st w Q (some q) :=
  rs_gof (by rw [rs_decC_s h, ho]; exact rs_dok_s hq) d L st w Q
theorem rs_entg {y : MethodName} {cd : ByteArray} {n : Nat} {r : Option FieldType} (h : rs_code y = some (cd, n, r)) {as : List Value} {l0 : rs_L} (hl : rs_al as ++ List.replicate (n - (rs_al as).length) none = l0) (hn : (rs_al as).length ≤ n) (d : Nat) (w : rs_H) (Q : rs_H → Option Value → Prop) : rs_XM d y as w Q ↔ rs_X d y 0 l0 [] w Q := by
  unfold rs_XM rs_ent
  rw [h]
  dsimp only
  rw [if_pos hn, hl]
  constructor
  · rintro ⟨l, e, hx⟩
    cases e
    exact hx
  · intro hx
    exact ⟨_, rfl, hx⟩
theorem rs_c2_rf (r : Option Nat) : rs_c2 (va_rf r) = false := by cases r <;> rfl
theorem rs_c2_r (r : Nat) : rs_c2 (.ref r) = false := rfl
theorem rs_c2_u : rs_c2 .null = false := rfl
theorem rs_c2_i (r : Int32) : rs_c2 (.int r) = false := rfl
