/-! the rules of the run: a step each, for simp only -/
def rs_KI (o : Option Value) (K : Int32 → Prop) : Prop := match o with
  | some (.int v) => K v
  | _ => False
def rs_KJ (o : Option Value) (K : Int64 → Prop) : Prop := match o with
  | some (.long v) => K v
  | _ => False
def rs_KA (o : Option Value) (K : Value → Prop) : Prop := match o with
  | some v => rs_isr v = true ∧ K v
  | _ => False
def rs_KL (o : Option rs_L) (K : rs_L → Prop) : Prop := match o with
  | some l => K l
  | none => False
theorem rs_KI_s (v : Int32) (K : Int32 → Prop) : rs_KI (some (.int v)) K ↔ K v := Iff.rfl
theorem rs_KJ_s (v : Int64) (K : Int64 → Prop) : rs_KJ (some (.long v)) K ↔ K v := Iff.rfl
theorem rs_isr_rf (r : Option Nat) : rs_isr (va_rf r) = true := by cases r <;> rfl
theorem rs_KA_r (q : Nat) (K : Value → Prop) : rs_KA (some (.ref q)) K ↔ K (.ref q) := ⟨fun h => h.2, fun h => ⟨rfl, h⟩⟩
theorem rs_KA_n (K : Value → Prop) : rs_KA (some .null) K ↔ K .null := ⟨fun h => h.2, fun h => ⟨rfl, h⟩⟩
theorem rs_KA_rf (r : Option Nat) (K : Value → Prop) : rs_KA (some (va_rf r)) K ↔ K (va_rf r) := ⟨fun h => h.2, fun h => ⟨rs_isr_rf r, h⟩⟩
theorem rs_KL_s (l : rs_L) (K : rs_L → Prop) : rs_KL (some l) K ↔ K l := Iff.rfl
theorem rs_ld_0 (a : Option Value) (l : rs_L) : rs_ld (a :: l) 0 = a := rfl
theorem rs_ld_k (a : Option Value) (l : rs_L) (k : Nat) : rs_ld (a :: l) (k + 1) = rs_ld l k := rfl
theorem rs_st1_0 (a : Option Value) (l : rs_L) (v : Value) : rs_st1 (a :: l) 0 v = some (some v :: l) := rfl
theorem rs_st1_1 (a c : Option Value) (l : rs_L) (v : Value) : rs_st1 (a :: c :: l) 1 v = some (rs_dr a :: some v :: l) := rfl
theorem rs_st1_k (a c c2 : Option Value) (l : rs_L) (k : Nat) (v : Value) : rs_st1 (a :: c :: c2 :: l) (k + 2) v = (rs_st1 (c :: c2 :: l) (k + 1) v).map (a :: ·) := rfl
theorem rs_st2_0 (a c : Option Value) (l : rs_L) (v : Value) : rs_st2 (a :: c :: l) 0 v = some (some v :: none :: l) := rfl
theorem rs_st2_1 (a c c2 : Option Value) (l : rs_L) (v : Value) : rs_st2 (a :: c :: c2 :: l) 1 v = some (rs_dr a :: some v :: none :: l) := rfl
theorem rs_st2_k (a c c2 c3 : Option Value) (l : rs_L) (k : Nat) (v : Value) : rs_st2 (a :: c :: c2 :: c3 :: l) (k + 2) v = (rs_st2 (c :: c2 :: c3 :: l) (k + 1) v).map (a :: ·) := rfl
theorem rs_dr_n : rs_dr none = none := rfl
theorem rs_dr_i (v : Int32) : rs_dr (some (.int v)) = some (.int v) := rfl
theorem rs_dr_l (v : Int64) : rs_dr (some (.long v)) = none := rfl
theorem rs_dr_r (v : Nat) : rs_dr (some (.ref v)) = some (.ref v) := rfl
theorem rs_dr_u : rs_dr (some .null) = some .null := rfl
theorem rs_dr_rf (r : Option Nat) : rs_dr (some (va_rf r)) = some (va_rf r) := by cases r <;> rfl
theorem rs_mp (l : rs_L) (a : Option Value) : (some l).map (a :: ·) = some (a :: l) := rfl
def rs_gf (f : Option (Nat × Nat × FieldType × Bool)) (o : Option rs_C) (K : Value → Prop) : Prop := match f, o with
  | some f, some c => c.1 = f.1 ∧ K (c.2.2 f.2.1)
  | _, _ => False
theorem rs_gf_s (k j n : Nat) (ty : FieldType) (b : Bool) (V : Nat → Value) (K : Value → Prop) : rs_gf (some (k, j, ty, b)) (some (k, n, V)) K ↔ K (V j) := ⟨fun h => h.2, fun h => ⟨rfl, h⟩⟩
def rs_pf (f : Option (Nat × Nat × FieldType)) (o : Option rs_C) (v : Value) (K : rs_C → Prop) : Prop := match f, o with
  | some f, some c => (c.1 = f.1 ∧ fits f.2.2 v = true) ∧ K (c.1, c.2.1, va_up c.2.2 f.2.1 v)
  | _, _ => False
theorem rs_pf_i (k j n : Nat) (x : Int32) (V : Nat → Value) (K : rs_C → Prop) : rs_pf (some (k, j, .int)) (some (k, n, V)) (.int x) K ↔ K (k, n, va_up V j (.int x)) := ⟨fun h => h.2, fun h => ⟨⟨rfl, rfl⟩, h⟩⟩
theorem rs_pf_l (k j n : Nat) (x : Int64) (V : Nat → Value) (K : rs_C → Prop) : rs_pf (some (k, j, .long)) (some (k, n, V)) (.long x) K ↔ K (k, n, va_up V j (.long x)) := ⟨fun h => h.2, fun h => ⟨⟨rfl, rfl⟩, h⟩⟩
theorem rs_pf_z (k j n : Nat) (x : Int32) (V : Nat → Value) (K : rs_C → Prop) : rs_pf (some (k, j, .boolean)) (some (k, n, V)) (.int x) K ↔ (x = 0 ∨ x = 1) ∧ K (k, n, va_up V j (.int x)) := ⟨fun h => ⟨by simpa [fits] using h.1.2, h.2⟩, fun h => ⟨⟨rfl, by simpa [fits] using h.1⟩, h.2⟩⟩
theorem rs_pf_o (k j n : Nat) (C : String) (r : Option Nat) (V : Nat → Value) (K : rs_C → Prop) : rs_pf (some (k, j, .object C)) (some (k, n, V)) (va_rf r) K ↔ K (k, n, va_up V j (va_rf r)) := ⟨fun h => h.2, fun h => ⟨⟨rfl, by cases r <;> rfl⟩, h⟩⟩
theorem rs_pf_or (k j n : Nat) (C : String) (r : Nat) (V : Nat → Value) (K : rs_C → Prop) : rs_pf (some (k, j, .object C)) (some (k, n, V)) (.ref r) K ↔ K (k, n, va_up V j (.ref r)) := ⟨fun h => h.2, fun h => ⟨⟨rfl, rfl⟩, h⟩⟩
theorem rs_pf_on (k j n : Nat) (C : String) (V : Nat → Value) (K : rs_C → Prop) : rs_pf (some (k, j, .object C)) (some (k, n, V)) .null K ↔ K (k, n, va_up V j .null) := ⟨fun h => h.2, fun h => ⟨⟨rfl, rfl⟩, h⟩⟩
theorem rs_pf_a (k j n : Nat) (C : FieldType) (r : Nat) (V : Nat → Value) (K : rs_C → Prop) : rs_pf (some (k, j, .array C)) (some (k, n, V)) (.ref r) K ↔ K (k, n, va_up V j (.ref r)) := ⟨fun h => h.2, fun h => ⟨⟨rfl, rfl⟩, h⟩⟩
/-- an index within -/
def rs_in (i : Int32) (n : Nat) : Prop := ¬ i < 0 ∧ i.toNatClampNeg < n
def rs_ar (k : Nat) (o : Option rs_C) (i : Int32) (K : Value → Prop) : Prop := match o with
  | some c => rs_okK k c.1 = true ∧ rs_in i c.2.1 ∧ K (c.2.2 i.toNatClampNeg)
  | none => False
theorem rs_ar_i (n : Nat) (V : Nat → Value) (i : Int32) (K : Value → Prop) : rs_ar 12 (some (12, n, V)) i K ↔ rs_in i n ∧ K (V i.toNatClampNeg) := ⟨fun h => h.2, fun h => ⟨rfl, h⟩⟩
theorem rs_ar_j (n : Nat) (V : Nat → Value) (i : Int32) (K : Value → Prop) : rs_ar 13 (some (13, n, V)) i K ↔ rs_in i n ∧ K (V i.toNatClampNeg) := ⟨fun h => h.2, fun h => ⟨rfl, h⟩⟩
theorem rs_ar_z (n : Nat) (V : Nat → Value) (i : Int32) (K : Value → Prop) : rs_ar 14 (some (14, n, V)) i K ↔ rs_in i n ∧ K (V i.toNatClampNeg) := ⟨fun h => h.2, fun h => ⟨rfl, h⟩⟩
theorem rs_ar_15 (n : Nat) (V : Nat → Value) (i : Int32) (K : Value → Prop) : rs_ar 99 (some (15, n, V)) i K ↔ rs_in i n ∧ K (V i.toNatClampNeg) := ⟨fun h => h.2, fun h => ⟨rfl, h⟩⟩
theorem rs_ar_16 (n : Nat) (V : Nat → Value) (i : Int32) (K : Value → Prop) : rs_ar 99 (some (16, n, V)) i K ↔ rs_in i n ∧ K (V i.toNatClampNeg) := ⟨fun h => h.2, fun h => ⟨rfl, h⟩⟩
theorem rs_ar_17 (n : Nat) (V : Nat → Value) (i : Int32) (K : Value → Prop) : rs_ar 99 (some (17, n, V)) i K ↔ rs_in i n ∧ K (V i.toNatClampNeg) := ⟨fun h => h.2, fun h => ⟨rfl, h⟩⟩
theorem rs_ar_18 (n : Nat) (V : Nat → Value) (i : Int32) (K : Value → Prop) : rs_ar 99 (some (18, n, V)) i K ↔ rs_in i n ∧ K (V i.toNatClampNeg) := ⟨fun h => h.2, fun h => ⟨rfl, h⟩⟩
theorem rs_ar_19 (n : Nat) (V : Nat → Value) (i : Int32) (K : Value → Prop) : rs_ar 99 (some (19, n, V)) i K ↔ rs_in i n ∧ K (V i.toNatClampNeg) := ⟨fun h => h.2, fun h => ⟨rfl, h⟩⟩
def rs_aw (k : Nat) (w : rs_H) (q : Nat) (o : Option rs_C) (i : Int32) (v : Value) (K : rs_C → Prop) : Prop := match o with
  | some c => ((¬ q = 0 ∧ rs_okK k c.1 = true ∧ rs_okV w k c.1 v = true) ∧ rs_in i c.2.1) ∧ K (c.1, c.2.1, va_up c.2.2 i.toNatClampNeg v)
  | none => False
theorem rs_aw_i (w : rs_H) (q n : Nat) (V : Nat → Value) (i x : Int32) (K : rs_C → Prop) : rs_aw 12 w q (some (12, n, V)) i (.int x) K ↔ ¬ q = 0 ∧ rs_in i n ∧ K (12, n, va_up V i.toNatClampNeg (.int x)) := ⟨fun h => ⟨h.1.1.1, h.1.2, h.2⟩, fun h => ⟨⟨⟨h.1, rfl, rfl⟩, h.2.1⟩, h.2.2⟩⟩
theorem rs_aw_j (w : rs_H) (q n : Nat) (V : Nat → Value) (i : Int32) (x : Int64) (K : rs_C → Prop) : rs_aw 13 w q (some (13, n, V)) i (.long x) K ↔ ¬ q = 0 ∧ rs_in i n ∧ K (13, n, va_up V i.toNatClampNeg (.long x)) := ⟨fun h => ⟨h.1.1.1, h.1.2, h.2⟩, fun h => ⟨⟨⟨h.1, rfl, rfl⟩, h.2.1⟩, h.2.2⟩⟩
theorem rs_aw_z (w : rs_H) (q n : Nat) (V : Nat → Value) (i x : Int32) (K : rs_C → Prop) : rs_aw 14 w q (some (14, n, V)) i (.int x) K ↔ ¬ q = 0 ∧ (x = 0 ∨ x = 1) ∧ rs_in i n ∧ K (14, n, va_up V i.toNatClampNeg (.int x)) := ⟨fun h => ⟨h.1.1.1, of_decide_eq_true h.1.1.2.2, h.1.2, h.2⟩, fun h => ⟨⟨⟨h.1, rfl, decide_eq_true h.2.1⟩, h.2.2.1⟩, h.2.2.2⟩⟩
/-- what may be put into an array of objects -/
def rs_oa (w : rs_H) (k : Nat) (v : Value) : Prop := rs_okA w k v = true
theorem rs_aw_15 (w : rs_H) (q n : Nat) (V : Nat → Value) (i : Int32) (v : Value) (K : rs_C → Prop) : rs_aw 99 w q (some (15, n, V)) i v K ↔ ¬ q = 0 ∧ rs_oa w 15 v ∧ rs_in i n ∧ K (15, n, va_up V i.toNatClampNeg v) := ⟨fun h => ⟨h.1.1.1, h.1.1.2.2, h.1.2, h.2⟩, fun h => ⟨⟨⟨h.1, rfl, h.2.1⟩, h.2.2.1⟩, h.2.2.2⟩⟩
theorem rs_aw_16 (w : rs_H) (q n : Nat) (V : Nat → Value) (i : Int32) (v : Value) (K : rs_C → Prop) : rs_aw 99 w q (some (16, n, V)) i v K ↔ ¬ q = 0 ∧ rs_oa w 16 v ∧ rs_in i n ∧ K (16, n, va_up V i.toNatClampNeg v) := ⟨fun h => ⟨h.1.1.1, h.1.1.2.2, h.1.2, h.2⟩, fun h => ⟨⟨⟨h.1, rfl, h.2.1⟩, h.2.2.1⟩, h.2.2.2⟩⟩
theorem rs_aw_17 (w : rs_H) (q n : Nat) (V : Nat → Value) (i : Int32) (v : Value) (K : rs_C → Prop) : rs_aw 99 w q (some (17, n, V)) i v K ↔ ¬ q = 0 ∧ rs_oa w 17 v ∧ rs_in i n ∧ K (17, n, va_up V i.toNatClampNeg v) := ⟨fun h => ⟨h.1.1.1, h.1.1.2.2, h.1.2, h.2⟩, fun h => ⟨⟨⟨h.1, rfl, h.2.1⟩, h.2.2.1⟩, h.2.2.2⟩⟩
theorem rs_aw_18 (w : rs_H) (q n : Nat) (V : Nat → Value) (i : Int32) (v : Value) (K : rs_C → Prop) : rs_aw 99 w q (some (18, n, V)) i v K ↔ ¬ q = 0 ∧ rs_oa w 18 v ∧ rs_in i n ∧ K (18, n, va_up V i.toNatClampNeg v) := ⟨fun h => ⟨h.1.1.1, h.1.1.2.2, h.1.2, h.2⟩, fun h => ⟨⟨⟨h.1, rfl, h.2.1⟩, h.2.2.1⟩, h.2.2.2⟩⟩
theorem rs_aw_19 (w : rs_H) (q n : Nat) (V : Nat → Value) (i : Int32) (v : Value) (K : rs_C → Prop) : rs_aw 99 w q (some (19, n, V)) i v K ↔ ¬ q = 0 ∧ rs_oa w 19 v ∧ rs_in i n ∧ K (19, n, va_up V i.toNatClampNeg v) := ⟨fun h => ⟨h.1.1.1, h.1.1.2.2, h.1.2, h.2⟩, fun h => ⟨⟨⟨h.1, rfl, h.2.1⟩, h.2.2.1⟩, h.2.2.2⟩⟩
theorem rs_oa_n (w : rs_H) (k : Nat) : rs_oa w k .null ↔ True := ⟨fun _ => trivial, fun _ => rfl⟩
theorem rs_oa_r (w : rs_H) (k r : Nat) : rs_oa w k (.ref r) ↔ ∃ c, w.1 r = some c ∧ c.1 = rs_ak k := by
  unfold rs_oa rs_okA
  dsimp only
  cases w.1 r with
  | none => simp
  | some c => simp
def rs_lenk (o : Option rs_C) (K : Int32 → Prop) : Prop := match o with
  | some c => 12 ≤ c.1 ∧ K (nI c.2.1)
  | none => False
theorem rs_lenk_12 (n : Nat) (V : Nat → Value) (K : Int32 → Prop) : rs_lenk (some (12, n, V)) K ↔ K (nI n) := ⟨fun h => h.2, fun h => ⟨Nat.le_of_ble_eq_true rfl, h⟩⟩
theorem rs_lenk_13 (n : Nat) (V : Nat → Value) (K : Int32 → Prop) : rs_lenk (some (13, n, V)) K ↔ K (nI n) := ⟨fun h => h.2, fun h => ⟨Nat.le_of_ble_eq_true rfl, h⟩⟩
theorem rs_lenk_14 (n : Nat) (V : Nat → Value) (K : Int32 → Prop) : rs_lenk (some (14, n, V)) K ↔ K (nI n) := ⟨fun h => h.2, fun h => ⟨Nat.le_of_ble_eq_true rfl, h⟩⟩
theorem rs_lenk_15 (n : Nat) (V : Nat → Value) (K : Int32 → Prop) : rs_lenk (some (15, n, V)) K ↔ K (nI n) := ⟨fun h => h.2, fun h => ⟨Nat.le_of_ble_eq_true rfl, h⟩⟩
theorem rs_lenk_16 (n : Nat) (V : Nat → Value) (K : Int32 → Prop) : rs_lenk (some (16, n, V)) K ↔ K (nI n) := ⟨fun h => h.2, fun h => ⟨Nat.le_of_ble_eq_true rfl, h⟩⟩
theorem rs_lenk_17 (n : Nat) (V : Nat → Value) (K : Int32 → Prop) : rs_lenk (some (17, n, V)) K ↔ K (nI n) := ⟨fun h => h.2, fun h => ⟨Nat.le_of_ble_eq_true rfl, h⟩⟩
theorem rs_lenk_18 (n : Nat) (V : Nat → Value) (K : Int32 → Prop) : rs_lenk (some (18, n, V)) K ↔ K (nI n) := ⟨fun h => h.2, fun h => ⟨Nat.le_of_ble_eq_true rfl, h⟩⟩
theorem rs_lenk_19 (n : Nat) (V : Nat → Value) (K : Int32 → Prop) : rs_lenk (some (19, n, V)) K ↔ K (nI n) := ⟨fun h => h.2, fun h => ⟨Nat.le_of_ble_eq_true rfl, h⟩⟩
theorem rs_X_ite {d : Nat} {y : MethodName} {L : rs_L} {st : List Value} {w : rs_H} {Q : rs_H → Option Value → Prop} {c : Prop} [Decidable c] {a b : Nat} : rs_X d y (if c then a else b) L st w Q ↔ if c then rs_X d y a L st w Q else rs_X d y b L st w Q := by
  by_cases h : c
  · rw [if_pos h, if_pos h]
  · rw [if_neg h, if_neg h]
theorem rs_sw_0 (t : Nat) (v : Int32) : rs_sw [] t v = t := rfl
theorem rs_sw_s (a : Int32) (p t : Nat) (r : List (Int32 × Nat)) (v : Int32) : rs_sw ((a, p) :: r) t v = if v = a then p else rs_sw r t v := rfl
def rs_wn (o : Option (Nat × Nat)) (K : Nat → Nat → Prop) : Prop := match o with
  | some k => K k.1 k.2
  | none => False
theorem rs_wn_s (k m : Nat) (K : Nat → Nat → Prop) : rs_wn (some (k, m)) K ↔ K k m := Iff.rfl
def rs_wa (o : Option Nat) (n : Int32) (K : Nat → Prop) : Prop := match o with
  | some k => (¬ n < 0 ∧ n.toNatClampNeg ≤ 65536) ∧ K k
  | none => False
theorem rs_wa_s (k : Nat) (n : Int32) (K : Nat → Prop) : rs_wa (some k) n K ↔ (¬ n < 0 ∧ n.toNatClampNeg ≤ 65536) ∧ K k := Iff.rfl
def rs_dvk (k : Nat) : Value := match rs_aty k with
  | some t => defaultValue t
  | none => .null
def rs_RI (o : Option FieldType) (v : Int32) (P : Prop) : Prop := match o with
  | some t => rs_fz t v = true ∧ P
  | none => False
theorem rs_RI_i (v : Int32) (P : Prop) : rs_RI (some .int) v P ↔ P := ⟨fun h => h.2, fun h => ⟨rfl, h⟩⟩
theorem rs_RI_z (v : Int32) (P : Prop) : rs_RI (some .boolean) v P ↔ (v = 0 ∨ v = 1) ∧ P := ⟨fun h => ⟨of_decide_eq_true h.1, h.2⟩, fun h => ⟨decide_eq_true h.1, h.2⟩⟩
def rs_RJ (o : Option FieldType) (P : Prop) : Prop := match o with
  | some .long => P
  | _ => False
theorem rs_RJ_s (P : Prop) : rs_RJ (some .long) P ↔ P := Iff.rfl
def rs_RV (o : Option FieldType) (P : Prop) : Prop := match o with
  | none => P
  | _ => False
theorem rs_RV_s (P : Prop) : rs_RV none P ↔ P := Iff.rfl
def rs_RA (o : Option FieldType) (P : Prop) : Prop := match o with
  | some (.object _) => P
  | _ => False
theorem rs_RA_s (C : String) (P : Prop) : rs_RA (some (.object C)) P ↔ P := Iff.rfl
def rs_XC (d : Nat) (y : MethodName) (L : rs_L) (nx : Nat) (w : rs_H) (Q : rs_H → Option Value → Prop) (lk : Option (MethodName × Nat × Nat)) (mode : Nat) (st : List Value) : Prop := rs_XO d y L w Q (rs_call lk mode nx st w)
def rs_OI (b : Bool) (y : MethodName) (i : Nat) (d : Nat) (L : rs_L) (nx : Nat) (w : rs_H) (Q : rs_H → Option Value → Prop) (st : List Value) : Prop := match b with
  | true => (match st with
    | .ref _ :: s => rs_s4 s = true ∧ rs_X d y nx L s w Q
    | _ => False)
  | false => rs_XC d y L nx w Q (rs_lk 2 y.cls i) 2 st
theorem rs_OI_f {y : MethodName} {i d : Nat} {L : rs_L} {nx : Nat} {w : rs_H} {Q : rs_H → Option Value → Prop} {st : List Value} : rs_OI false y i d L nx w Q st ↔ rs_XC d y L nx w Q (rs_lk 2 y.cls i) 2 st := Iff.rfl
theorem rs_OI_t {y : MethodName} {i d : Nat} {L : rs_L} {nx : Nat} {w : rs_H} {Q : rs_H → Option Value → Prop} (q : Nat) {st : List Value} : rs_OI true y i d L nx w Q (.ref q :: st) ↔ rs_s4 st = true ∧ rs_X d y nx L st w Q := Iff.rfl
theorem rs_push_s (v : Value) (s : List Value) : rs_push (some v) s = v :: s := rfl
theorem rs_push_n (s : List Value) : rs_push none s = s := rfl
def rs_isK (o : Option rs_C) (k : Nat) : Prop := match o with
  | some c => c.1 = k
  | none => False
theorem rs_isK_s (k n : Nat) (V : Nat → Value) : rs_isK (some (k, n, V)) k ↔ True := ⟨fun _ => trivial, fun _ => rfl⟩
theorem rs_s4_0 : rs_s4 [] = true := rfl
theorem rs_s4_1 (a : Value) : rs_s4 [a] = true := rfl
theorem rs_s4_2 (a b : Value) : rs_s4 [a, b] = true := rfl
theorem rs_s4_3 (a b c : Value) : rs_s4 [a, b, c] = true := rfl
theorem rs_s4_4 (a b c d : Value) : rs_s4 [a, b, c, d] = true := rfl
def rs_XS (d : Nat) (y : MethodName) (L : rs_L) (nx : Nat) (w : rs_H) (Q : rs_H → Option Value → Prop) (lk : Option (MethodName × Nat × Nat)) (jm : Option Nat) (st : List Value) : Prop := match lk with
  | some f => rs_XC d y L nx w Q (some f) 0 st
  | none => match rs_mth jm st with
    | some s => rs_X d y nx L s w Q
    | none => False
theorem xs_c {d : Nat} {y : MethodName} {L : rs_L} {nx : Nat} {w : rs_H} {Q : rs_H → Option Value → Prop} (f : MethodName × Nat × Nat) (jm : Option Nat) (st : List Value) : rs_XS d y L nx w Q (some f) jm st ↔ rs_XC d y L nx w Q (some f) 0 st := Iff.rfl
theorem xs_0 {d : Nat} {y : MethodName} {L : rs_L} {nx : Nat} {w : rs_H} {Q : rs_H → Option Value → Prop} (a b : Int32) (st : List Value) : rs_XS d y L nx w Q none (some 0) (.int b :: .int a :: st) ↔ rs_s4 st = true ∧ rs_X d y nx L (.int (if a < b then b else a) :: st) w Q := by
  have e : rs_mth (some 0) (.int b :: .int a :: st) = if rs_s4 st = true then some (.int (if a < b then b else a) :: st) else none := rfl
  unfold rs_XS
  dsimp only
  rw [e]
  by_cases h : rs_s4 st = true
  · rw [if_pos h]; exact ⟨fun z => ⟨h, z⟩, fun z => z.2⟩
  · rw [if_neg h]; exact ⟨fun z => z.elim, fun z => absurd z.1 h⟩
theorem xs_1 {d : Nat} {y : MethodName} {L : rs_L} {nx : Nat} {w : rs_H} {Q : rs_H → Option Value → Prop} (a b : Int64) (st : List Value) : rs_XS d y L nx w Q none (some 1) (.long b :: .long a :: st) ↔ rs_s4 st = true ∧ rs_X d y nx L (.long (if b < a then a else b) :: st) w Q := by
  have e : rs_mth (some 1) (.long b :: .long a :: st) = if rs_s4 st = true then some (.long (if b < a then a else b) :: st) else none := rfl
  unfold rs_XS
  dsimp only
  rw [e]
  by_cases h : rs_s4 st = true
  · rw [if_pos h]; exact ⟨fun z => ⟨h, z⟩, fun z => z.2⟩
  · rw [if_neg h]; exact ⟨fun z => z.elim, fun z => absurd z.1 h⟩
theorem xs_2 {d : Nat} {y : MethodName} {L : rs_L} {nx : Nat} {w : rs_H} {Q : rs_H → Option Value → Prop} (a b : Int64) (st : List Value) : rs_XS d y L nx w Q none (some 2) (.long b :: .long a :: st) ↔ rs_s4 st = true ∧ rs_X d y nx L (.long (if b < a then b else a) :: st) w Q := by
  have e : rs_mth (some 2) (.long b :: .long a :: st) = if rs_s4 st = true then some (.long (if b < a then b else a) :: st) else none := rfl
  unfold rs_XS
  dsimp only
  rw [e]
  by_cases h : rs_s4 st = true
  · rw [if_pos h]; exact ⟨fun z => ⟨h, z⟩, fun z => z.2⟩
  · rw [if_neg h]; exact ⟨fun z => z.elim, fun z => absurd z.1 h⟩
theorem xi_iconst {d : Nat} {y : MethodName} {L : rs_L} {st : List Value} {w : rs_H} {Q : rs_H → Option Value → Prop} {n nx t : Nat} {cs : List (Int32 × Nat)} {cv : Value} (i : Int) : rs_XD d y L (st) w Q (some (.iconst i, n, nx, t, cs, cv)) ↔ rs_X d y nx L (cv :: st) w Q := Iff.rfl
theorem xi_bipush {d : Nat} {y : MethodName} {L : rs_L} {st : List Value} {w : rs_H} {Q : rs_H → Option Value → Prop} {n nx t : Nat} {cs : List (Int32 × Nat)} {cv : Value} (i : Int) : rs_XD d y L (st) w Q (some (.bipush i, n, nx, t, cs, cv)) ↔ rs_X d y nx L (cv :: st) w Q := Iff.rfl
theorem xi_sipush {d : Nat} {y : MethodName} {L : rs_L} {st : List Value} {w : rs_H} {Q : rs_H → Option Value → Prop} {n nx t : Nat} {cs : List (Int32 × Nat)} {cv : Value} (i : Int) : rs_XD d y L (st) w Q (some (.sipush i, n, nx, t, cs, cv)) ↔ rs_X d y nx L (cv :: st) w Q := Iff.rfl
theorem xi_lconst {d : Nat} {y : MethodName} {L : rs_L} {st : List Value} {w : rs_H} {Q : rs_H → Option Value → Prop} {n nx t : Nat} {cs : List (Int32 × Nat)} {cv : Value} (i : Fin 2) : rs_XD d y L (st) w Q (some (.lconst i, n, nx, t, cs, cv)) ↔ rs_X d y nx L (cv :: st) w Q := Iff.rfl
theorem xi_ldc {d : Nat} {y : MethodName} {L : rs_L} {st : List Value} {w : rs_H} {Q : rs_H → Option Value → Prop} {n nx t : Nat} {cs : List (Int32 × Nat)} {cv : Value} (i : Nat) : rs_XD d y L (st) w Q (some (.ldc i, n, nx, t, cs, cv)) ↔ (rs_ic y.cls i).isSome = true ∧ rs_X d y nx L (cv :: st) w Q := by
  unfold rs_XD rs_exec
  dsimp only
  by_cases h : (rs_ic y.cls i).isSome = true
  · rw [if_pos h]; exact ⟨fun z => ⟨h, z⟩, fun z => z.2⟩
  · rw [if_neg h]; exact ⟨fun z => z.elim, fun z => absurd z.1 h⟩
theorem xi_ldc_w {d : Nat} {y : MethodName} {L : rs_L} {st : List Value} {w : rs_H} {Q : rs_H → Option Value → Prop} {n nx t : Nat} {cs : List (Int32 × Nat)} {cv : Value} (i : Nat) : rs_XD d y L (st) w Q (some (.ldc_w i, n, nx, t, cs, cv)) ↔ (rs_ic y.cls i).isSome = true ∧ rs_X d y nx L (cv :: st) w Q := by
  unfold rs_XD rs_exec
  dsimp only
  by_cases h : (rs_ic y.cls i).isSome = true
  · rw [if_pos h]; exact ⟨fun z => ⟨h, z⟩, fun z => z.2⟩
  · rw [if_neg h]; exact ⟨fun z => z.elim, fun z => absurd z.1 h⟩
theorem xi_ldc2_w {d : Nat} {y : MethodName} {L : rs_L} {st : List Value} {w : rs_H} {Q : rs_H → Option Value → Prop} {n nx t : Nat} {cs : List (Int32 × Nat)} {cv : Value} (i : Nat) : rs_XD d y L (st) w Q (some (.ldc2_w i, n, nx, t, cs, cv)) ↔ (rs_lc y.cls i).isSome = true ∧ rs_X d y nx L (cv :: st) w Q := by
  unfold rs_XD rs_exec
  dsimp only
  by_cases h : (rs_lc y.cls i).isSome = true
  · rw [if_pos h]; exact ⟨fun z => ⟨h, z⟩, fun z => z.2⟩
  · rw [if_neg h]; exact ⟨fun z => z.elim, fun z => absurd z.1 h⟩
theorem xi_iload {d : Nat} {y : MethodName} {L : rs_L} {st : List Value} {w : rs_H} {Q : rs_H → Option Value → Prop} {n nx t : Nat} {cs : List (Int32 × Nat)} {cv : Value} (k : Nat) : rs_XD d y L (st) w Q (some (.iload k, n, nx, t, cs, cv)) ↔ rs_KI (rs_ld L k) fun v => rs_X d y nx L (.int v :: st) w Q := by
  show rs_XO d y L w Q ((match rs_ld L k with | some (.int v) => some (.int v) | _ => none : Option Value).map fun v => .inl (nx, L, v :: st, w)) ↔ _
  unfold rs_KI
  cases rs_ld L k with
  | none => exact Iff.rfl
  | some v => cases v <;> exact Iff.rfl
theorem xi_iload_n_0 {d : Nat} {y : MethodName} {L : rs_L} {st : List Value} {w : rs_H} {Q : rs_H → Option Value → Prop} {n nx t : Nat} {cs : List (Int32 × Nat)} {cv : Value} : rs_XD d y L (st) w Q (some (.iload_n 0, n, nx, t, cs, cv)) ↔ rs_KI (rs_ld L 0) fun v => rs_X d y nx L (.int v :: st) w Q := by
  show rs_XO d y L w Q ((match rs_ld L 0 with | some (.int v) => some (.int v) | _ => none : Option Value).map fun v => .inl (nx, L, v :: st, w)) ↔ _
  unfold rs_KI
  cases rs_ld L 0 with
  | none => exact Iff.rfl
  | some v => cases v <;> exact Iff.rfl
theorem xi_iload_n_1 {d : Nat} {y : MethodName} {L : rs_L} {st : List Value} {w : rs_H} {Q : rs_H → Option Value → Prop} {n nx t : Nat} {cs : List (Int32 × Nat)} {cv : Value} : rs_XD d y L (st) w Q (some (.iload_n 1, n, nx, t, cs, cv)) ↔ rs_KI (rs_ld L 1) fun v => rs_X d y nx L (.int v :: st) w Q := by
  show rs_XO d y L w Q ((match rs_ld L 1 with | some (.int v) => some (.int v) | _ => none : Option Value).map fun v => .inl (nx, L, v :: st, w)) ↔ _
  unfold rs_KI
  cases rs_ld L 1 with
  | none => exact Iff.rfl
  | some v => cases v <;> exact Iff.rfl
theorem xi_iload_n_2 {d : Nat} {y : MethodName} {L : rs_L} {st : List Value} {w : rs_H} {Q : rs_H → Option Value → Prop} {n nx t : Nat} {cs : List (Int32 × Nat)} {cv : Value} : rs_XD d y L (st) w Q (some (.iload_n 2, n, nx, t, cs, cv)) ↔ rs_KI (rs_ld L 2) fun v => rs_X d y nx L (.int v :: st) w Q := by
  show rs_XO d y L w Q ((match rs_ld L 2 with | some (.int v) => some (.int v) | _ => none : Option Value).map fun v => .inl (nx, L, v :: st, w)) ↔ _
  unfold rs_KI
  cases rs_ld L 2 with
  | none => exact Iff.rfl
  | some v => cases v <;> exact Iff.rfl
theorem xi_iload_n_3 {d : Nat} {y : MethodName} {L : rs_L} {st : List Value} {w : rs_H} {Q : rs_H → Option Value → Prop} {n nx t : Nat} {cs : List (Int32 × Nat)} {cv : Value} : rs_XD d y L (st) w Q (some (.iload_n 3, n, nx, t, cs, cv)) ↔ rs_KI (rs_ld L 3) fun v => rs_X d y nx L (.int v :: st) w Q := by
  show rs_XO d y L w Q ((match rs_ld L 3 with | some (.int v) => some (.int v) | _ => none : Option Value).map fun v => .inl (nx, L, v :: st, w)) ↔ _
  unfold rs_KI
  cases rs_ld L 3 with
  | none => exact Iff.rfl
  | some v => cases v <;> exact Iff.rfl
theorem xi_lload {d : Nat} {y : MethodName} {L : rs_L} {st : List Value} {w : rs_H} {Q : rs_H → Option Value → Prop} {n nx t : Nat} {cs : List (Int32 × Nat)} {cv : Value} (k : Nat) : rs_XD d y L (st) w Q (some (.lload k, n, nx, t, cs, cv)) ↔ rs_KJ (rs_ld L k) fun v => rs_X d y nx L (.long v :: st) w Q := by
  show rs_XO d y L w Q ((match rs_ld L k with | some (.long v) => some (.long v) | _ => none : Option Value).map fun v => .inl (nx, L, v :: st, w)) ↔ _
  unfold rs_KJ
  cases rs_ld L k with
  | none => exact Iff.rfl
  | some v => cases v <;> exact Iff.rfl
theorem xi_lload_n_0 {d : Nat} {y : MethodName} {L : rs_L} {st : List Value} {w : rs_H} {Q : rs_H → Option Value → Prop} {n nx t : Nat} {cs : List (Int32 × Nat)} {cv : Value} : rs_XD d y L (st) w Q (some (.lload_n 0, n, nx, t, cs, cv)) ↔ rs_KJ (rs_ld L 0) fun v => rs_X d y nx L (.long v :: st) w Q := by
  show rs_XO d y L w Q ((match rs_ld L 0 with | some (.long v) => some (.long v) | _ => none : Option Value).map fun v => .inl (nx, L, v :: st, w)) ↔ _
  unfold rs_KJ
  cases rs_ld L 0 with
  | none => exact Iff.rfl
  | some v => cases v <;> exact Iff.rfl
theorem xi_lload_n_1 {d : Nat} {y : MethodName} {L : rs_L} {st : List Value} {w : rs_H} {Q : rs_H → Option Value → Prop} {n nx t : Nat} {cs : List (Int32 × Nat)} {cv : Value} : rs_XD d y L (st) w Q (some (.lload_n 1, n, nx, t, cs, cv)) ↔ rs_KJ (rs_ld L 1) fun v => rs_X d y nx L (.long v :: st) w Q := by
  show rs_XO d y L w Q ((match rs_ld L 1 with | some (.long v) => some (.long v) | _ => none : Option Value).map fun v => .inl (nx, L, v :: st, w)) ↔ _
  unfold rs_KJ
  cases rs_ld L 1 with
  | none => exact Iff.rfl
  | some v => cases v <;> exact Iff.rfl
theorem xi_lload_n_2 {d : Nat} {y : MethodName} {L : rs_L} {st : List Value} {w : rs_H} {Q : rs_H → Option Value → Prop} {n nx t : Nat} {cs : List (Int32 × Nat)} {cv : Value} : rs_XD d y L (st) w Q (some (.lload_n 2, n, nx, t, cs, cv)) ↔ rs_KJ (rs_ld L 2) fun v => rs_X d y nx L (.long v :: st) w Q := by
  show rs_XO d y L w Q ((match rs_ld L 2 with | some (.long v) => some (.long v) | _ => none : Option Value).map fun v => .inl (nx, L, v :: st, w)) ↔ _
  unfold rs_KJ
  cases rs_ld L 2 with
  | none => exact Iff.rfl
  | some v => cases v <;> exact Iff.rfl
theorem xi_lload_n_3 {d : Nat} {y : MethodName} {L : rs_L} {st : List Value} {w : rs_H} {Q : rs_H → Option Value → Prop} {n nx t : Nat} {cs : List (Int32 × Nat)} {cv : Value} : rs_XD d y L (st) w Q (some (.lload_n 3, n, nx, t, cs, cv)) ↔ rs_KJ (rs_ld L 3) fun v => rs_X d y nx L (.long v :: st) w Q := by
  show rs_XO d y L w Q ((match rs_ld L 3 with | some (.long v) => some (.long v) | _ => none : Option Value).map fun v => .inl (nx, L, v :: st, w)) ↔ _
  unfold rs_KJ
  cases rs_ld L 3 with
  | none => exact Iff.rfl
  | some v => cases v <;> exact Iff.rfl
theorem xi_aload {d : Nat} {y : MethodName} {L : rs_L} {st : List Value} {w : rs_H} {Q : rs_H → Option Value → Prop} {n nx t : Nat} {cs : List (Int32 × Nat)} {cv : Value} (k : Nat) : rs_XD d y L (st) w Q (some (.aload k, n, nx, t, cs, cv)) ↔ rs_KA (rs_ld L k) fun v => rs_X d y nx L (v :: st) w Q := by
  show rs_XO d y L w Q ((match rs_ld L k with | some v => if rs_isr v = true then some v else none | _ => none : Option Value).map fun v => .inl (nx, L, v :: st, w)) ↔ _
  unfold rs_KA
  cases rs_ld L k with
  | none => exact Iff.rfl
  | some v =>
    dsimp only
    by_cases h : rs_isr v = true
    · rw [if_pos h]; exact ⟨fun z => ⟨h, z⟩, fun z => z.2⟩
    · rw [if_neg h]; exact ⟨fun z => z.elim, fun z => absurd z.1 h⟩
theorem xi_aload_n_0 {d : Nat} {y : MethodName} {L : rs_L} {st : List Value} {w : rs_H} {Q : rs_H → Option Value → Prop} {n nx t : Nat} {cs : List (Int32 × Nat)} {cv : Value} : rs_XD d y L (st) w Q (some (.aload_n 0, n, nx, t, cs, cv)) ↔ rs_KA (rs_ld L 0) fun v => rs_X d y nx L (v :: st) w Q := by
  show rs_XO d y L w Q ((match rs_ld L 0 with | some v => if rs_isr v = true then some v else none | _ => none : Option Value).map fun v => .inl (nx, L, v :: st, w)) ↔ _
  unfold rs_KA
  cases rs_ld L 0 with
  | none => exact Iff.rfl
  | some v =>
    dsimp only
    by_cases h : rs_isr v = true
    · rw [if_pos h]; exact ⟨fun z => ⟨h, z⟩, fun z => z.2⟩
    · rw [if_neg h]; exact ⟨fun z => z.elim, fun z => absurd z.1 h⟩
theorem xi_aload_n_1 {d : Nat} {y : MethodName} {L : rs_L} {st : List Value} {w : rs_H} {Q : rs_H → Option Value → Prop} {n nx t : Nat} {cs : List (Int32 × Nat)} {cv : Value} : rs_XD d y L (st) w Q (some (.aload_n 1, n, nx, t, cs, cv)) ↔ rs_KA (rs_ld L 1) fun v => rs_X d y nx L (v :: st) w Q := by
  show rs_XO d y L w Q ((match rs_ld L 1 with | some v => if rs_isr v = true then some v else none | _ => none : Option Value).map fun v => .inl (nx, L, v :: st, w)) ↔ _
  unfold rs_KA
  cases rs_ld L 1 with
  | none => exact Iff.rfl
  | some v =>
    dsimp only
    by_cases h : rs_isr v = true
    · rw [if_pos h]; exact ⟨fun z => ⟨h, z⟩, fun z => z.2⟩
    · rw [if_neg h]; exact ⟨fun z => z.elim, fun z => absurd z.1 h⟩
theorem xi_aload_n_2 {d : Nat} {y : MethodName} {L : rs_L} {st : List Value} {w : rs_H} {Q : rs_H → Option Value → Prop} {n nx t : Nat} {cs : List (Int32 × Nat)} {cv : Value} : rs_XD d y L (st) w Q (some (.aload_n 2, n, nx, t, cs, cv)) ↔ rs_KA (rs_ld L 2) fun v => rs_X d y nx L (v :: st) w Q := by
  show rs_XO d y L w Q ((match rs_ld L 2 with | some v => if rs_isr v = true then some v else none | _ => none : Option Value).map fun v => .inl (nx, L, v :: st, w)) ↔ _
  unfold rs_KA
  cases rs_ld L 2 with
  | none => exact Iff.rfl
  | some v =>
    dsimp only
    by_cases h : rs_isr v = true
    · rw [if_pos h]; exact ⟨fun z => ⟨h, z⟩, fun z => z.2⟩
    · rw [if_neg h]; exact ⟨fun z => z.elim, fun z => absurd z.1 h⟩
theorem xi_aload_n_3 {d : Nat} {y : MethodName} {L : rs_L} {st : List Value} {w : rs_H} {Q : rs_H → Option Value → Prop} {n nx t : Nat} {cs : List (Int32 × Nat)} {cv : Value} : rs_XD d y L (st) w Q (some (.aload_n 3, n, nx, t, cs, cv)) ↔ rs_KA (rs_ld L 3) fun v => rs_X d y nx L (v :: st) w Q := by
  show rs_XO d y L w Q ((match rs_ld L 3 with | some v => if rs_isr v = true then some v else none | _ => none : Option Value).map fun v => .inl (nx, L, v :: st, w)) ↔ _
  unfold rs_KA
  cases rs_ld L 3 with
  | none => exact Iff.rfl
  | some v =>
    dsimp only
    by_cases h : rs_isr v = true
    · rw [if_pos h]; exact ⟨fun z => ⟨h, z⟩, fun z => z.2⟩
    · rw [if_neg h]; exact ⟨fun z => z.elim, fun z => absurd z.1 h⟩
theorem xi_istore {d : Nat} {y : MethodName} {L : rs_L} {st : List Value} {w : rs_H} {Q : rs_H → Option Value → Prop} {n nx t : Nat} {cs : List (Int32 × Nat)} {cv : Value} (k : Nat) (v : Int32) : rs_XD d y L (.int v :: st) w Q (some (.istore k, n, nx, t, cs, cv)) ↔ rs_KL (rs_st1 L k (.int v)) fun L' => rs_X d y nx L' (st) w Q := by
  show rs_XO d y L w Q ((rs_st1 L k (.int v)).map fun l' => .inl (nx, l', st, w)) ↔ _
  cases rs_st1 L k (.int v) <;> exact Iff.rfl
theorem xi_istore_n_0 {d : Nat} {y : MethodName} {L : rs_L} {st : List Value} {w : rs_H} {Q : rs_H → Option Value → Prop} {n nx t : Nat} {cs : List (Int32 × Nat)} {cv : Value} (v : Int32) : rs_XD d y L (.int v :: st) w Q (some (.istore_n 0, n, nx, t, cs, cv)) ↔ rs_KL (rs_st1 L 0 (.int v)) fun L' => rs_X d y nx L' (st) w Q := by
  show rs_XO d y L w Q ((rs_st1 L 0 (.int v)).map fun l' => .inl (nx, l', st, w)) ↔ _
  cases rs_st1 L 0 (.int v) <;> exact Iff.rfl
theorem xi_istore_n_1 {d : Nat} {y : MethodName} {L : rs_L} {st : List Value} {w : rs_H} {Q : rs_H → Option Value → Prop} {n nx t : Nat} {cs : List (Int32 × Nat)} {cv : Value} (v : Int32) : rs_XD d y L (.int v :: st) w Q (some (.istore_n 1, n, nx, t, cs, cv)) ↔ rs_KL (rs_st1 L 1 (.int v)) fun L' => rs_X d y nx L' (st) w Q := by
  show rs_XO d y L w Q ((rs_st1 L 1 (.int v)).map fun l' => .inl (nx, l', st, w)) ↔ _
  cases rs_st1 L 1 (.int v) <;> exact Iff.rfl
theorem xi_istore_n_2 {d : Nat} {y : MethodName} {L : rs_L} {st : List Value} {w : rs_H} {Q : rs_H → Option Value → Prop} {n nx t : Nat} {cs : List (Int32 × Nat)} {cv : Value} (v : Int32) : rs_XD d y L (.int v :: st) w Q (some (.istore_n 2, n, nx, t, cs, cv)) ↔ rs_KL (rs_st1 L 2 (.int v)) fun L' => rs_X d y nx L' (st) w Q := by
  show rs_XO d y L w Q ((rs_st1 L 2 (.int v)).map fun l' => .inl (nx, l', st, w)) ↔ _
  cases rs_st1 L 2 (.int v) <;> exact Iff.rfl
theorem xi_istore_n_3 {d : Nat} {y : MethodName} {L : rs_L} {st : List Value} {w : rs_H} {Q : rs_H → Option Value → Prop} {n nx t : Nat} {cs : List (Int32 × Nat)} {cv : Value} (v : Int32) : rs_XD d y L (.int v :: st) w Q (some (.istore_n 3, n, nx, t, cs, cv)) ↔ rs_KL (rs_st1 L 3 (.int v)) fun L' => rs_X d y nx L' (st) w Q := by
  show rs_XO d y L w Q ((rs_st1 L 3 (.int v)).map fun l' => .inl (nx, l', st, w)) ↔ _
  cases rs_st1 L 3 (.int v) <;> exact Iff.rfl
theorem xi_lstore {d : Nat} {y : MethodName} {L : rs_L} {st : List Value} {w : rs_H} {Q : rs_H → Option Value → Prop} {n nx t : Nat} {cs : List (Int32 × Nat)} {cv : Value} (k : Nat) (v : Int64) : rs_XD d y L (.long v :: st) w Q (some (.lstore k, n, nx, t, cs, cv)) ↔ rs_KL (rs_st2 L k (.long v)) fun L' => rs_X d y nx L' (st) w Q := by
  show rs_XO d y L w Q ((rs_st2 L k (.long v)).map fun l' => .inl (nx, l', st, w)) ↔ _
  cases rs_st2 L k (.long v) <;> exact Iff.rfl
theorem xi_lstore_n_0 {d : Nat} {y : MethodName} {L : rs_L} {st : List Value} {w : rs_H} {Q : rs_H → Option Value → Prop} {n nx t : Nat} {cs : List (Int32 × Nat)} {cv : Value} (v : Int64) : rs_XD d y L (.long v :: st) w Q (some (.lstore_n 0, n, nx, t, cs, cv)) ↔ rs_KL (rs_st2 L 0 (.long v)) fun L' => rs_X d y nx L' (st) w Q := by
  show rs_XO d y L w Q ((rs_st2 L 0 (.long v)).map fun l' => .inl (nx, l', st, w)) ↔ _
  cases rs_st2 L 0 (.long v) <;> exact Iff.rfl
theorem xi_lstore_n_1 {d : Nat} {y : MethodName} {L : rs_L} {st : List Value} {w : rs_H} {Q : rs_H → Option Value → Prop} {n nx t : Nat} {cs : List (Int32 × Nat)} {cv : Value} (v : Int64) : rs_XD d y L (.long v :: st) w Q (some (.lstore_n 1, n, nx, t, cs, cv)) ↔ rs_KL (rs_st2 L 1 (.long v)) fun L' => rs_X d y nx L' (st) w Q := by
  show rs_XO d y L w Q ((rs_st2 L 1 (.long v)).map fun l' => .inl (nx, l', st, w)) ↔ _
  cases rs_st2 L 1 (.long v) <;> exact Iff.rfl
theorem xi_lstore_n_2 {d : Nat} {y : MethodName} {L : rs_L} {st : List Value} {w : rs_H} {Q : rs_H → Option Value → Prop} {n nx t : Nat} {cs : List (Int32 × Nat)} {cv : Value} (v : Int64) : rs_XD d y L (.long v :: st) w Q (some (.lstore_n 2, n, nx, t, cs, cv)) ↔ rs_KL (rs_st2 L 2 (.long v)) fun L' => rs_X d y nx L' (st) w Q := by
  show rs_XO d y L w Q ((rs_st2 L 2 (.long v)).map fun l' => .inl (nx, l', st, w)) ↔ _
  cases rs_st2 L 2 (.long v) <;> exact Iff.rfl
theorem xi_lstore_n_3 {d : Nat} {y : MethodName} {L : rs_L} {st : List Value} {w : rs_H} {Q : rs_H → Option Value → Prop} {n nx t : Nat} {cs : List (Int32 × Nat)} {cv : Value} (v : Int64) : rs_XD d y L (.long v :: st) w Q (some (.lstore_n 3, n, nx, t, cs, cv)) ↔ rs_KL (rs_st2 L 3 (.long v)) fun L' => rs_X d y nx L' (st) w Q := by
  show rs_XO d y L w Q ((rs_st2 L 3 (.long v)).map fun l' => .inl (nx, l', st, w)) ↔ _
  cases rs_st2 L 3 (.long v) <;> exact Iff.rfl
theorem xi_astore_r {d : Nat} {y : MethodName} {L : rs_L} {st : List Value} {w : rs_H} {Q : rs_H → Option Value → Prop} {n nx t : Nat} {cs : List (Int32 × Nat)} {cv : Value} (k : Nat) (v : Nat) : rs_XD d y L ((.ref v) :: st) w Q (some (.astore k, n, nx, t, cs, cv)) ↔ rs_KL (rs_st1 L k (.ref v)) fun L' => rs_X d y nx L' (st) w Q := by
  show rs_XO d y L w Q (((if rs_isr (.ref v) = true then rs_st1 L k (.ref v) else none) : Option rs_L).map fun l' => .inl (nx, l', st, w)) ↔ _
  rw [if_pos (show rs_isr (.ref v) = true from rfl)]
  cases rs_st1 L k (.ref v) <;> exact Iff.rfl
theorem xi_astore_u {d : Nat} {y : MethodName} {L : rs_L} {st : List Value} {w : rs_H} {Q : rs_H → Option Value → Prop} {n nx t : Nat} {cs : List (Int32 × Nat)} {cv : Value} (k : Nat) : rs_XD d y L ((.null) :: st) w Q (some (.astore k, n, nx, t, cs, cv)) ↔ rs_KL (rs_st1 L k (.null)) fun L' => rs_X d y nx L' (st) w Q := by
  show rs_XO d y L w Q (((if rs_isr (.null) = true then rs_st1 L k (.null) else none) : Option rs_L).map fun l' => .inl (nx, l', st, w)) ↔ _
  rw [if_pos (show rs_isr (.null) = true from rfl)]
  cases rs_st1 L k (.null) <;> exact Iff.rfl
theorem xi_astore_rf {d : Nat} {y : MethodName} {L : rs_L} {st : List Value} {w : rs_H} {Q : rs_H → Option Value → Prop} {n nx t : Nat} {cs : List (Int32 × Nat)} {cv : Value} (k : Nat) (v : Option Nat) : rs_XD d y L ((va_rf v) :: st) w Q (some (.astore k, n, nx, t, cs, cv)) ↔ rs_KL (rs_st1 L k (va_rf v)) fun L' => rs_X d y nx L' (st) w Q := by
  show rs_XO d y L w Q (((if rs_isr (va_rf v) = true then rs_st1 L k (va_rf v) else none) : Option rs_L).map fun l' => .inl (nx, l', st, w)) ↔ _
  rw [if_pos (rs_isr_rf v)]
  cases rs_st1 L k (va_rf v) <;> exact Iff.rfl
theorem xi_astore_n_0_r {d : Nat} {y : MethodName} {L : rs_L} {st : List Value} {w : rs_H} {Q : rs_H → Option Value → Prop} {n nx t : Nat} {cs : List (Int32 × Nat)} {cv : Value} (v : Nat) : rs_XD d y L ((.ref v) :: st) w Q (some (.astore_n 0, n, nx, t, cs, cv)) ↔ rs_KL (rs_st1 L 0 (.ref v)) fun L' => rs_X d y nx L' (st) w Q := by
  show rs_XO d y L w Q (((if rs_isr (.ref v) = true then rs_st1 L 0 (.ref v) else none) : Option rs_L).map fun l' => .inl (nx, l', st, w)) ↔ _
  rw [if_pos (show rs_isr (.ref v) = true from rfl)]
  cases rs_st1 L 0 (.ref v) <;> exact Iff.rfl
theorem xi_astore_n_0_u {d : Nat} {y : MethodName} {L : rs_L} {st : List Value} {w : rs_H} {Q : rs_H → Option Value → Prop} {n nx t : Nat} {cs : List (Int32 × Nat)} {cv : Value} : rs_XD d y L ((.null) :: st) w Q (some (.astore_n 0, n, nx, t, cs, cv)) ↔ rs_KL (rs_st1 L 0 (.null)) fun L' => rs_X d y nx L' (st) w Q := by
  show rs_XO d y L w Q (((if rs_isr (.null) = true then rs_st1 L 0 (.null) else none) : Option rs_L).map fun l' => .inl (nx, l', st, w)) ↔ _
  rw [if_pos (show rs_isr (.null) = true from rfl)]
  cases rs_st1 L 0 (.null) <;> exact Iff.rfl
theorem xi_astore_n_0_rf {d : Nat} {y : MethodName} {L : rs_L} {st : List Value} {w : rs_H} {Q : rs_H → Option Value → Prop} {n nx t : Nat} {cs : List (Int32 × Nat)} {cv : Value} (v : Option Nat) : rs_XD d y L ((va_rf v) :: st) w Q (some (.astore_n 0, n, nx, t, cs, cv)) ↔ rs_KL (rs_st1 L 0 (va_rf v)) fun L' => rs_X d y nx L' (st) w Q := by
  show rs_XO d y L w Q (((if rs_isr (va_rf v) = true then rs_st1 L 0 (va_rf v) else none) : Option rs_L).map fun l' => .inl (nx, l', st, w)) ↔ _
  rw [if_pos (rs_isr_rf v)]
  cases rs_st1 L 0 (va_rf v) <;> exact Iff.rfl
theorem xi_astore_n_1_r {d : Nat} {y : MethodName} {L : rs_L} {st : List Value} {w : rs_H} {Q : rs_H → Option Value → Prop} {n nx t : Nat} {cs : List (Int32 × Nat)} {cv : Value} (v : Nat) : rs_XD d y L ((.ref v) :: st) w Q (some (.astore_n 1, n, nx, t, cs, cv)) ↔ rs_KL (rs_st1 L 1 (.ref v)) fun L' => rs_X d y nx L' (st) w Q := by
  show rs_XO d y L w Q (((if rs_isr (.ref v) = true then rs_st1 L 1 (.ref v) else none) : Option rs_L).map fun l' => .inl (nx, l', st, w)) ↔ _
  rw [if_pos (show rs_isr (.ref v) = true from rfl)]
  cases rs_st1 L 1 (.ref v) <;> exact Iff.rfl
theorem xi_astore_n_1_u {d : Nat} {y : MethodName} {L : rs_L} {st : List Value} {w : rs_H} {Q : rs_H → Option Value → Prop} {n nx t : Nat} {cs : List (Int32 × Nat)} {cv : Value} : rs_XD d y L ((.null) :: st) w Q (some (.astore_n 1, n, nx, t, cs, cv)) ↔ rs_KL (rs_st1 L 1 (.null)) fun L' => rs_X d y nx L' (st) w Q := by
  show rs_XO d y L w Q (((if rs_isr (.null) = true then rs_st1 L 1 (.null) else none) : Option rs_L).map fun l' => .inl (nx, l', st, w)) ↔ _
  rw [if_pos (show rs_isr (.null) = true from rfl)]
  cases rs_st1 L 1 (.null) <;> exact Iff.rfl
theorem xi_astore_n_1_rf {d : Nat} {y : MethodName} {L : rs_L} {st : List Value} {w : rs_H} {Q : rs_H → Option Value → Prop} {n nx t : Nat} {cs : List (Int32 × Nat)} {cv : Value} (v : Option Nat) : rs_XD d y L ((va_rf v) :: st) w Q (some (.astore_n 1, n, nx, t, cs, cv)) ↔ rs_KL (rs_st1 L 1 (va_rf v)) fun L' => rs_X d y nx L' (st) w Q := by
  show rs_XO d y L w Q (((if rs_isr (va_rf v) = true then rs_st1 L 1 (va_rf v) else none) : Option rs_L).map fun l' => .inl (nx, l', st, w)) ↔ _
  rw [if_pos (rs_isr_rf v)]
  cases rs_st1 L 1 (va_rf v) <;> exact Iff.rfl
theorem xi_astore_n_2_r {d : Nat} {y : MethodName} {L : rs_L} {st : List Value} {w : rs_H} {Q : rs_H → Option Value → Prop} {n nx t : Nat} {cs : List (Int32 × Nat)} {cv : Value} (v : Nat) : rs_XD d y L ((.ref v) :: st) w Q (some (.astore_n 2, n, nx, t, cs, cv)) ↔ rs_KL (rs_st1 L 2 (.ref v)) fun L' => rs_X d y nx L' (st) w Q := by
  show rs_XO d y L w Q (((if rs_isr (.ref v) = true then rs_st1 L 2 (.ref v) else none) : Option rs_L).map fun l' => .inl (nx, l', st, w)) ↔ _
  rw [if_pos (show rs_isr (.ref v) = true from rfl)]
  cases rs_st1 L 2 (.ref v) <;> exact Iff.rfl
theorem xi_astore_n_2_u {d : Nat} {y : MethodName} {L : rs_L} {st : List Value} {w : rs_H} {Q : rs_H → Option Value → Prop} {n nx t : Nat} {cs : List (Int32 × Nat)} {cv : Value} : rs_XD d y L ((.null) :: st) w Q (some (.astore_n 2, n, nx, t, cs, cv)) ↔ rs_KL (rs_st1 L 2 (.null)) fun L' => rs_X d y nx L' (st) w Q := by
  show rs_XO d y L w Q (((if rs_isr (.null) = true then rs_st1 L 2 (.null) else none) : Option rs_L).map fun l' => .inl (nx, l', st, w)) ↔ _
  rw [if_pos (show rs_isr (.null) = true from rfl)]
  cases rs_st1 L 2 (.null) <;> exact Iff.rfl
theorem xi_astore_n_2_rf {d : Nat} {y : MethodName} {L : rs_L} {st : List Value} {w : rs_H} {Q : rs_H → Option Value → Prop} {n nx t : Nat} {cs : List (Int32 × Nat)} {cv : Value} (v : Option Nat) : rs_XD d y L ((va_rf v) :: st) w Q (some (.astore_n 2, n, nx, t, cs, cv)) ↔ rs_KL (rs_st1 L 2 (va_rf v)) fun L' => rs_X d y nx L' (st) w Q := by
  show rs_XO d y L w Q (((if rs_isr (va_rf v) = true then rs_st1 L 2 (va_rf v) else none) : Option rs_L).map fun l' => .inl (nx, l', st, w)) ↔ _
  rw [if_pos (rs_isr_rf v)]
  cases rs_st1 L 2 (va_rf v) <;> exact Iff.rfl
theorem xi_astore_n_3_r {d : Nat} {y : MethodName} {L : rs_L} {st : List Value} {w : rs_H} {Q : rs_H → Option Value → Prop} {n nx t : Nat} {cs : List (Int32 × Nat)} {cv : Value} (v : Nat) : rs_XD d y L ((.ref v) :: st) w Q (some (.astore_n 3, n, nx, t, cs, cv)) ↔ rs_KL (rs_st1 L 3 (.ref v)) fun L' => rs_X d y nx L' (st) w Q := by
  show rs_XO d y L w Q (((if rs_isr (.ref v) = true then rs_st1 L 3 (.ref v) else none) : Option rs_L).map fun l' => .inl (nx, l', st, w)) ↔ _
  rw [if_pos (show rs_isr (.ref v) = true from rfl)]
  cases rs_st1 L 3 (.ref v) <;> exact Iff.rfl
theorem xi_astore_n_3_u {d : Nat} {y : MethodName} {L : rs_L} {st : List Value} {w : rs_H} {Q : rs_H → Option Value → Prop} {n nx t : Nat} {cs : List (Int32 × Nat)} {cv : Value} : rs_XD d y L ((.null) :: st) w Q (some (.astore_n 3, n, nx, t, cs, cv)) ↔ rs_KL (rs_st1 L 3 (.null)) fun L' => rs_X d y nx L' (st) w Q := by
  show rs_XO d y L w Q (((if rs_isr (.null) = true then rs_st1 L 3 (.null) else none) : Option rs_L).map fun l' => .inl (nx, l', st, w)) ↔ _
  rw [if_pos (show rs_isr (.null) = true from rfl)]
  cases rs_st1 L 3 (.null) <;> exact Iff.rfl
theorem xi_astore_n_3_rf {d : Nat} {y : MethodName} {L : rs_L} {st : List Value} {w : rs_H} {Q : rs_H → Option Value → Prop} {n nx t : Nat} {cs : List (Int32 × Nat)} {cv : Value} (v : Option Nat) : rs_XD d y L ((va_rf v) :: st) w Q (some (.astore_n 3, n, nx, t, cs, cv)) ↔ rs_KL (rs_st1 L 3 (va_rf v)) fun L' => rs_X d y nx L' (st) w Q := by
  show rs_XO d y L w Q (((if rs_isr (va_rf v) = true then rs_st1 L 3 (va_rf v) else none) : Option rs_L).map fun l' => .inl (nx, l', st, w)) ↔ _
  rw [if_pos (rs_isr_rf v)]
  cases rs_st1 L 3 (va_rf v) <;> exact Iff.rfl
theorem xi_iinc {d : Nat} {y : MethodName} {L : rs_L} {st : List Value} {w : rs_H} {Q : rs_H → Option Value → Prop} {n nx t : Nat} {cs : List (Int32 × Nat)} (k : Nat) (i : Int) (c : Int32) : rs_XD d y L (st) w Q (some (.iinc k i, n, nx, t, cs, .int c)) ↔ rs_KI (rs_ld L k) fun v => rs_KL (rs_st1 L k (.int (v + c))) fun L' => rs_X d y nx L' (st) w Q := by
  show rs_XO d y L w Q (match rs_ld L k, Value.int c with | some (.int a), .int c => (rs_st1 L k (.int (a + c))).map fun l' => .inl (nx, l', st, w) | _, _ => none) ↔ _
  unfold rs_KI
  cases rs_ld L k with
  | none => exact Iff.rfl
  | some v =>
    cases v <;> first | exact Iff.rfl | skip
    rename_i a
    dsimp only
    cases rs_st1 L k (.int (a + c)) <;> exact Iff.rfl
theorem xi_iadd {d : Nat} {y : MethodName} {L : rs_L} {st : List Value} {w : rs_H} {Q : rs_H → Option Value → Prop} {n nx t : Nat} {cs : List (Int32 × Nat)} {cv : Value} (a b : Int32) : rs_XD d y L (.int b :: .int a :: st) w Q (some (.iadd, n, nx, t, cs, cv)) ↔ rs_X d y nx L (.int (a + b) :: st) w Q := Iff.rfl
theorem xi_isub {d : Nat} {y : MethodName} {L : rs_L} {st : List Value} {w : rs_H} {Q : rs_H → Option Value → Prop} {n nx t : Nat} {cs : List (Int32 × Nat)} {cv : Value} (a b : Int32) : rs_XD d y L (.int b :: .int a :: st) w Q (some (.isub, n, nx, t, cs, cv)) ↔ rs_X d y nx L (.int (a - b) :: st) w Q := Iff.rfl
theorem xi_imul {d : Nat} {y : MethodName} {L : rs_L} {st : List Value} {w : rs_H} {Q : rs_H → Option Value → Prop} {n nx t : Nat} {cs : List (Int32 × Nat)} {cv : Value} (a b : Int32) : rs_XD d y L (.int b :: .int a :: st) w Q (some (.imul, n, nx, t, cs, cv)) ↔ rs_X d y nx L (.int (a * b) :: st) w Q := Iff.rfl
theorem xi_iand {d : Nat} {y : MethodName} {L : rs_L} {st : List Value} {w : rs_H} {Q : rs_H → Option Value → Prop} {n nx t : Nat} {cs : List (Int32 × Nat)} {cv : Value} (a b : Int32) : rs_XD d y L (.int b :: .int a :: st) w Q (some (.iand, n, nx, t, cs, cv)) ↔ rs_X d y nx L (.int (a &&& b) :: st) w Q := Iff.rfl
theorem xi_ior {d : Nat} {y : MethodName} {L : rs_L} {st : List Value} {w : rs_H} {Q : rs_H → Option Value → Prop} {n nx t : Nat} {cs : List (Int32 × Nat)} {cv : Value} (a b : Int32) : rs_XD d y L (.int b :: .int a :: st) w Q (some (.ior, n, nx, t, cs, cv)) ↔ rs_X d y nx L (.int (a ||| b) :: st) w Q := Iff.rfl
theorem xi_ixor {d : Nat} {y : MethodName} {L : rs_L} {st : List Value} {w : rs_H} {Q : rs_H → Option Value → Prop} {n nx t : Nat} {cs : List (Int32 × Nat)} {cv : Value} (a b : Int32) : rs_XD d y L (.int b :: .int a :: st) w Q (some (.ixor, n, nx, t, cs, cv)) ↔ rs_X d y nx L (.int (a ^^^ b) :: st) w Q := Iff.rfl
theorem xi_ishl {d : Nat} {y : MethodName} {L : rs_L} {st : List Value} {w : rs_H} {Q : rs_H → Option Value → Prop} {n nx t : Nat} {cs : List (Int32 × Nat)} {cv : Value} (a b : Int32) : rs_XD d y L (.int b :: .int a :: st) w Q (some (.ishl, n, nx, t, cs, cv)) ↔ rs_X d y nx L (.int (a <<< (b &&& 31)) :: st) w Q := Iff.rfl
theorem xi_ishr {d : Nat} {y : MethodName} {L : rs_L} {st : List Value} {w : rs_H} {Q : rs_H → Option Value → Prop} {n nx t : Nat} {cs : List (Int32 × Nat)} {cv : Value} (a b : Int32) : rs_XD d y L (.int b :: .int a :: st) w Q (some (.ishr, n, nx, t, cs, cv)) ↔ rs_X d y nx L (.int (a >>> (b &&& 31)) :: st) w Q := Iff.rfl
theorem xi_iushr {d : Nat} {y : MethodName} {L : rs_L} {st : List Value} {w : rs_H} {Q : rs_H → Option Value → Prop} {n nx t : Nat} {cs : List (Int32 × Nat)} {cv : Value} (a b : Int32) : rs_XD d y L (.int b :: .int a :: st) w Q (some (.iushr, n, nx, t, cs, cv)) ↔ rs_X d y nx L (.int ((a.toUInt32 >>> (b.toUInt32 &&& Int32.toUInt32 31)).toInt32) :: st) w Q := Iff.rfl
theorem xi_ladd {d : Nat} {y : MethodName} {L : rs_L} {st : List Value} {w : rs_H} {Q : rs_H → Option Value → Prop} {n nx t : Nat} {cs : List (Int32 × Nat)} {cv : Value} (a b : Int64) : rs_XD d y L (.long b :: .long a :: st) w Q (some (.ladd, n, nx, t, cs, cv)) ↔ rs_X d y nx L (.long (a + b) :: st) w Q := Iff.rfl
theorem xi_lsub {d : Nat} {y : MethodName} {L : rs_L} {st : List Value} {w : rs_H} {Q : rs_H → Option Value → Prop} {n nx t : Nat} {cs : List (Int32 × Nat)} {cv : Value} (a b : Int64) : rs_XD d y L (.long b :: .long a :: st) w Q (some (.lsub, n, nx, t, cs, cv)) ↔ rs_X d y nx L (.long (a - b) :: st) w Q := Iff.rfl
theorem xi_lmul {d : Nat} {y : MethodName} {L : rs_L} {st : List Value} {w : rs_H} {Q : rs_H → Option Value → Prop} {n nx t : Nat} {cs : List (Int32 × Nat)} {cv : Value} (a b : Int64) : rs_XD d y L (.long b :: .long a :: st) w Q (some (.lmul, n, nx, t, cs, cv)) ↔ rs_X d y nx L (.long (a * b) :: st) w Q := Iff.rfl
theorem xi_land {d : Nat} {y : MethodName} {L : rs_L} {st : List Value} {w : rs_H} {Q : rs_H → Option Value → Prop} {n nx t : Nat} {cs : List (Int32 × Nat)} {cv : Value} (a b : Int64) : rs_XD d y L (.long b :: .long a :: st) w Q (some (.land, n, nx, t, cs, cv)) ↔ rs_X d y nx L (.long (a &&& b) :: st) w Q := Iff.rfl
theorem xi_lcmp {d : Nat} {y : MethodName} {L : rs_L} {st : List Value} {w : rs_H} {Q : rs_H → Option Value → Prop} {n nx t : Nat} {cs : List (Int32 × Nat)} {cv : Value} (a b : Int64) : rs_XD d y L (.long b :: .long a :: st) w Q (some (.lcmp, n, nx, t, cs, cv)) ↔ rs_X d y nx L (.int (lg_cmp a b) :: st) w Q := Iff.rfl
theorem xi_lshl {d : Nat} {y : MethodName} {L : rs_L} {st : List Value} {w : rs_H} {Q : rs_H → Option Value → Prop} {n nx t : Nat} {cs : List (Int32 × Nat)} {cv : Value} (a : Int64) (b : Int32) : rs_XD d y L (.int b :: .long a :: st) w Q (some (.lshl, n, nx, t, cs, cv)) ↔ rs_X d y nx L (.long (a <<< (b.toInt64 &&& 63)) :: st) w Q := Iff.rfl
theorem xi_lshr {d : Nat} {y : MethodName} {L : rs_L} {st : List Value} {w : rs_H} {Q : rs_H → Option Value → Prop} {n nx t : Nat} {cs : List (Int32 × Nat)} {cv : Value} (a : Int64) (b : Int32) : rs_XD d y L (.int b :: .long a :: st) w Q (some (.lshr, n, nx, t, cs, cv)) ↔ rs_X d y nx L (.long (a >>> (b.toInt64 &&& 63)) :: st) w Q := Iff.rfl
theorem xi_i2l {d : Nat} {y : MethodName} {L : rs_L} {st : List Value} {w : rs_H} {Q : rs_H → Option Value → Prop} {n nx t : Nat} {cs : List (Int32 × Nat)} {cv : Value} (a : Int32) : rs_XD d y L (.int a :: st) w Q (some (.i2l, n, nx, t, cs, cv)) ↔ rs_X d y nx L (.long a.toInt64 :: st) w Q := Iff.rfl
theorem xi_l2i {d : Nat} {y : MethodName} {L : rs_L} {st : List Value} {w : rs_H} {Q : rs_H → Option Value → Prop} {n nx t : Nat} {cs : List (Int32 × Nat)} {cv : Value} (a : Int64) : rs_XD d y L (.long a :: st) w Q (some (.l2i, n, nx, t, cs, cv)) ↔ rs_X d y nx L (.int a.toInt32 :: st) w Q := Iff.rfl
theorem xi_aconst {d : Nat} {y : MethodName} {L : rs_L} {st : List Value} {w : rs_H} {Q : rs_H → Option Value → Prop} {n nx t : Nat} {cs : List (Int32 × Nat)} {cv : Value} : rs_XD d y L (st) w Q (some (.aconst_null, n, nx, t, cs, cv)) ↔ rs_X d y nx L (.null :: st) w Q := Iff.rfl
theorem xi_idiv {d : Nat} {y : MethodName} {L : rs_L} {st : List Value} {w : rs_H} {Q : rs_H → Option Value → Prop} {n nx t : Nat} {cs : List (Int32 × Nat)} {cv : Value} (a b : Int32) : rs_XD d y L (.int b :: .int a :: st) w Q (some (.idiv, n, nx, t, cs, cv)) ↔ ¬ b = 0 ∧ rs_X d y nx L (.int (a / b) :: st) w Q := by
  show rs_XO d y L w Q (Option.map (fun s => Sum.inl (nx, L, s, w)) (Option.map (· :: st) (if b = 0 then none else some (Value.int (a / b))))) ↔ _
  by_cases h : b = 0
  · rw [if_pos h]; exact ⟨fun z => z.elim, fun z => absurd h z.1⟩
  · rw [if_neg h]; exact ⟨fun z => ⟨h, z⟩, fun z => z.2⟩
theorem xi_irem {d : Nat} {y : MethodName} {L : rs_L} {st : List Value} {w : rs_H} {Q : rs_H → Option Value → Prop} {n nx t : Nat} {cs : List (Int32 × Nat)} {cv : Value} (a b : Int32) : rs_XD d y L (.int b :: .int a :: st) w Q (some (.irem, n, nx, t, cs, cv)) ↔ ¬ b = 0 ∧ rs_X d y nx L (.int (a - a / b * b) :: st) w Q := by
  show rs_XO d y L w Q (Option.map (fun s => Sum.inl (nx, L, s, w)) (Option.map (· :: st) (if b = 0 then none else some (Value.int (a - a / b * b))))) ↔ _
  by_cases h : b = 0
  · rw [if_pos h]; exact ⟨fun z => z.elim, fun z => absurd h z.1⟩
  · rw [if_neg h]; exact ⟨fun z => ⟨h, z⟩, fun z => z.2⟩
theorem xi_ldiv {d : Nat} {y : MethodName} {L : rs_L} {st : List Value} {w : rs_H} {Q : rs_H → Option Value → Prop} {n nx t : Nat} {cs : List (Int32 × Nat)} {cv : Value} (a b : Int64) : rs_XD d y L (.long b :: .long a :: st) w Q (some (.ldiv, n, nx, t, cs, cv)) ↔ ¬ b = 0 ∧ rs_X d y nx L (.long (a / b) :: st) w Q := by
  show rs_XO d y L w Q (Option.map (fun s => Sum.inl (nx, L, s, w)) (Option.map (· :: st) (if b = 0 then none else some (Value.long (a / b))))) ↔ _
  by_cases h : b = 0
  · rw [if_pos h]; exact ⟨fun z => z.elim, fun z => absurd h z.1⟩
  · rw [if_neg h]; exact ⟨fun z => ⟨h, z⟩, fun z => z.2⟩
theorem xi_lrem {d : Nat} {y : MethodName} {L : rs_L} {st : List Value} {w : rs_H} {Q : rs_H → Option Value → Prop} {n nx t : Nat} {cs : List (Int32 × Nat)} {cv : Value} (a b : Int64) : rs_XD d y L (.long b :: .long a :: st) w Q (some (.lrem, n, nx, t, cs, cv)) ↔ ¬ b = 0 ∧ rs_X d y nx L (.long (a - a / b * b) :: st) w Q := by
  show rs_XO d y L w Q (Option.map (fun s => Sum.inl (nx, L, s, w)) (Option.map (· :: st) (if b = 0 then none else some (Value.long (a - a / b * b))))) ↔ _
  by_cases h : b = 0
  · rw [if_pos h]; exact ⟨fun z => z.elim, fun z => absurd h z.1⟩
  · rw [if_neg h]; exact ⟨fun z => ⟨h, z⟩, fun z => z.2⟩
theorem xi_dup_i {d : Nat} {y : MethodName} {L : rs_L} {st : List Value} {w : rs_H} {Q : rs_H → Option Value → Prop} {n nx t : Nat} {cs : List (Int32 × Nat)} {cv : Value} (a : Int32) : rs_XD d y L (.int a :: st) w Q (some (.dup, n, nx, t, cs, cv)) ↔ rs_X d y nx L (.int a :: .int a :: st) w Q := Iff.rfl
theorem xi_dup_r {d : Nat} {y : MethodName} {L : rs_L} {st : List Value} {w : rs_H} {Q : rs_H → Option Value → Prop} {n nx t : Nat} {cs : List (Int32 × Nat)} {cv : Value} (a : Nat) : rs_XD d y L (.ref a :: st) w Q (some (.dup, n, nx, t, cs, cv)) ↔ rs_X d y nx L (.ref a :: .ref a :: st) w Q := Iff.rfl
theorem xi_dup2_ir {d : Nat} {y : MethodName} {L : rs_L} {st : List Value} {w : rs_H} {Q : rs_H → Option Value → Prop} {n nx t : Nat} {cs : List (Int32 × Nat)} {cv : Value} (i : Int32) (a : Nat) : rs_XD d y L (.int i :: .ref a :: st) w Q (some (.dup2, n, nx, t, cs, cv)) ↔ rs_X d y nx L (.int i :: .ref a :: .int i :: .ref a :: st) w Q := Iff.rfl
theorem xi_dup2_l {d : Nat} {y : MethodName} {L : rs_L} {st : List Value} {w : rs_H} {Q : rs_H → Option Value → Prop} {n nx t : Nat} {cs : List (Int32 × Nat)} {cv : Value} (i : Int64) : rs_XD d y L (.long i :: st) w Q (some (.dup2, n, nx, t, cs, cv)) ↔ rs_X d y nx L (.long i :: .long i :: st) w Q := Iff.rfl
theorem xi_goto {d : Nat} {y : MethodName} {L : rs_L} {st : List Value} {w : rs_H} {Q : rs_H → Option Value → Prop} {n nx t : Nat} {cs : List (Int32 × Nat)} {cv : Value} (o : Int) : rs_XD d y L (st) w Q (some (.goto o, n, nx, t, cs, cv)) ↔ rs_X d y t L (st) w Q := Iff.rfl
theorem xi_if_eq {d : Nat} {y : MethodName} {L : rs_L} {st : List Value} {w : rs_H} {Q : rs_H → Option Value → Prop} {n nx t : Nat} {cs : List (Int32 × Nat)} {cv : Value} (o : Int) (a : Int32) : rs_XD d y L (.int a :: st) w Q (some (.ifCond .eq o, n, nx, t, cs, cv)) ↔ if a = 0 then rs_X d y t L (st) w Q else rs_X d y nx L (st) w Q := by
  show rs_X d y (bif decide (a = 0) then t else nx) L st w Q ↔ _
  by_cases h : a = 0
  · rw [if_pos h, decide_eq_true h]; exact Iff.rfl
  · rw [if_neg h, decide_eq_false h]; exact Iff.rfl
theorem xi_ic_eq {d : Nat} {y : MethodName} {L : rs_L} {st : List Value} {w : rs_H} {Q : rs_H → Option Value → Prop} {n nx t : Nat} {cs : List (Int32 × Nat)} {cv : Value} (o : Int) (a b : Int32) : rs_XD d y L (.int b :: .int a :: st) w Q (some (.if_icmp .eq o, n, nx, t, cs, cv)) ↔ if a = b then rs_X d y t L (st) w Q else rs_X d y nx L (st) w Q := by
  show rs_X d y (bif decide (a = b) then t else nx) L st w Q ↔ _
  by_cases h : a = b
  · rw [if_pos h, decide_eq_true h]; exact Iff.rfl
  · rw [if_neg h, decide_eq_false h]; exact Iff.rfl
theorem xi_if_ne {d : Nat} {y : MethodName} {L : rs_L} {st : List Value} {w : rs_H} {Q : rs_H → Option Value → Prop} {n nx t : Nat} {cs : List (Int32 × Nat)} {cv : Value} (o : Int) (a : Int32) : rs_XD d y L (.int a :: st) w Q (some (.ifCond .ne o, n, nx, t, cs, cv)) ↔ if ¬ a = 0 then rs_X d y t L (st) w Q else rs_X d y nx L (st) w Q := by
  show rs_X d y (bif decide (¬ a = 0) then t else nx) L st w Q ↔ _
  by_cases h : ¬ a = 0
  · rw [if_pos h, decide_eq_true h]; exact Iff.rfl
  · rw [if_neg h, decide_eq_false h]; exact Iff.rfl
theorem xi_ic_ne {d : Nat} {y : MethodName} {L : rs_L} {st : List Value} {w : rs_H} {Q : rs_H → Option Value → Prop} {n nx t : Nat} {cs : List (Int32 × Nat)} {cv : Value} (o : Int) (a b : Int32) : rs_XD d y L (.int b :: .int a :: st) w Q (some (.if_icmp .ne o, n, nx, t, cs, cv)) ↔ if ¬ a = b then rs_X d y t L (st) w Q else rs_X d y nx L (st) w Q := by
  show rs_X d y (bif decide (¬ a = b) then t else nx) L st w Q ↔ _
  by_cases h : ¬ a = b
  · rw [if_pos h, decide_eq_true h]; exact Iff.rfl
  · rw [if_neg h, decide_eq_false h]; exact Iff.rfl
theorem xi_if_lt {d : Nat} {y : MethodName} {L : rs_L} {st : List Value} {w : rs_H} {Q : rs_H → Option Value → Prop} {n nx t : Nat} {cs : List (Int32 × Nat)} {cv : Value} (o : Int) (a : Int32) : rs_XD d y L (.int a :: st) w Q (some (.ifCond .lt o, n, nx, t, cs, cv)) ↔ if a < 0 then rs_X d y t L (st) w Q else rs_X d y nx L (st) w Q := by
  show rs_X d y (bif decide (a < 0) then t else nx) L st w Q ↔ _
  by_cases h : a < 0
  · rw [if_pos h, decide_eq_true h]; exact Iff.rfl
  · rw [if_neg h, decide_eq_false h]; exact Iff.rfl
theorem xi_ic_lt {d : Nat} {y : MethodName} {L : rs_L} {st : List Value} {w : rs_H} {Q : rs_H → Option Value → Prop} {n nx t : Nat} {cs : List (Int32 × Nat)} {cv : Value} (o : Int) (a b : Int32) : rs_XD d y L (.int b :: .int a :: st) w Q (some (.if_icmp .lt o, n, nx, t, cs, cv)) ↔ if a < b then rs_X d y t L (st) w Q else rs_X d y nx L (st) w Q := by
  show rs_X d y (bif decide (a < b) then t else nx) L st w Q ↔ _
  by_cases h : a < b
  · rw [if_pos h, decide_eq_true h]; exact Iff.rfl
  · rw [if_neg h, decide_eq_false h]; exact Iff.rfl
theorem xi_if_ge {d : Nat} {y : MethodName} {L : rs_L} {st : List Value} {w : rs_H} {Q : rs_H → Option Value → Prop} {n nx t : Nat} {cs : List (Int32 × Nat)} {cv : Value} (o : Int) (a : Int32) : rs_XD d y L (.int a :: st) w Q (some (.ifCond .ge o, n, nx, t, cs, cv)) ↔ if 0 ≤ a then rs_X d y t L (st) w Q else rs_X d y nx L (st) w Q := by
  show rs_X d y (bif decide (0 ≤ a) then t else nx) L st w Q ↔ _
  by_cases h : 0 ≤ a
  · rw [if_pos h, decide_eq_true h]; exact Iff.rfl
  · rw [if_neg h, decide_eq_false h]; exact Iff.rfl
theorem xi_ic_ge {d : Nat} {y : MethodName} {L : rs_L} {st : List Value} {w : rs_H} {Q : rs_H → Option Value → Prop} {n nx t : Nat} {cs : List (Int32 × Nat)} {cv : Value} (o : Int) (a b : Int32) : rs_XD d y L (.int b :: .int a :: st) w Q (some (.if_icmp .ge o, n, nx, t, cs, cv)) ↔ if b ≤ a then rs_X d y t L (st) w Q else rs_X d y nx L (st) w Q := by
  show rs_X d y (bif decide (b ≤ a) then t else nx) L st w Q ↔ _
  by_cases h : b ≤ a
  · rw [if_pos h, decide_eq_true h]; exact Iff.rfl
  · rw [if_neg h, decide_eq_false h]; exact Iff.rfl
theorem xi_if_gt {d : Nat} {y : MethodName} {L : rs_L} {st : List Value} {w : rs_H} {Q : rs_H → Option Value → Prop} {n nx t : Nat} {cs : List (Int32 × Nat)} {cv : Value} (o : Int) (a : Int32) : rs_XD d y L (.int a :: st) w Q (some (.ifCond .gt o, n, nx, t, cs, cv)) ↔ if 0 < a then rs_X d y t L (st) w Q else rs_X d y nx L (st) w Q := by
  show rs_X d y (bif decide (0 < a) then t else nx) L st w Q ↔ _
  by_cases h : 0 < a
  · rw [if_pos h, decide_eq_true h]; exact Iff.rfl
  · rw [if_neg h, decide_eq_false h]; exact Iff.rfl
theorem xi_ic_gt {d : Nat} {y : MethodName} {L : rs_L} {st : List Value} {w : rs_H} {Q : rs_H → Option Value → Prop} {n nx t : Nat} {cs : List (Int32 × Nat)} {cv : Value} (o : Int) (a b : Int32) : rs_XD d y L (.int b :: .int a :: st) w Q (some (.if_icmp .gt o, n, nx, t, cs, cv)) ↔ if b < a then rs_X d y t L (st) w Q else rs_X d y nx L (st) w Q := by
  show rs_X d y (bif decide (b < a) then t else nx) L st w Q ↔ _
  by_cases h : b < a
  · rw [if_pos h, decide_eq_true h]; exact Iff.rfl
  · rw [if_neg h, decide_eq_false h]; exact Iff.rfl
theorem xi_if_le {d : Nat} {y : MethodName} {L : rs_L} {st : List Value} {w : rs_H} {Q : rs_H → Option Value → Prop} {n nx t : Nat} {cs : List (Int32 × Nat)} {cv : Value} (o : Int) (a : Int32) : rs_XD d y L (.int a :: st) w Q (some (.ifCond .le o, n, nx, t, cs, cv)) ↔ if a ≤ 0 then rs_X d y t L (st) w Q else rs_X d y nx L (st) w Q := by
  show rs_X d y (bif decide (a ≤ 0) then t else nx) L st w Q ↔ _
  by_cases h : a ≤ 0
  · rw [if_pos h, decide_eq_true h]; exact Iff.rfl
  · rw [if_neg h, decide_eq_false h]; exact Iff.rfl
theorem xi_ic_le {d : Nat} {y : MethodName} {L : rs_L} {st : List Value} {w : rs_H} {Q : rs_H → Option Value → Prop} {n nx t : Nat} {cs : List (Int32 × Nat)} {cv : Value} (o : Int) (a b : Int32) : rs_XD d y L (.int b :: .int a :: st) w Q (some (.if_icmp .le o, n, nx, t, cs, cv)) ↔ if a ≤ b then rs_X d y t L (st) w Q else rs_X d y nx L (st) w Q := by
  show rs_X d y (bif decide (a ≤ b) then t else nx) L st w Q ↔ _
  by_cases h : a ≤ b
  · rw [if_pos h, decide_eq_true h]; exact Iff.rfl
  · rw [if_neg h, decide_eq_false h]; exact Iff.rfl
theorem xi_ifnull_r {d : Nat} {y : MethodName} {L : rs_L} {st : List Value} {w : rs_H} {Q : rs_H → Option Value → Prop} {n nx t : Nat} {cs : List (Int32 × Nat)} {cv : Value} (o : Int) (a : Nat) : rs_XD d y L (.ref a :: st) w Q (some (.ifnull o, n, nx, t, cs, cv)) ↔ rs_X d y nx L (st) w Q := Iff.rfl
theorem xi_ifnull_u {d : Nat} {y : MethodName} {L : rs_L} {st : List Value} {w : rs_H} {Q : rs_H → Option Value → Prop} {n nx t : Nat} {cs : List (Int32 × Nat)} {cv : Value} (o : Int) : rs_XD d y L (.null :: st) w Q (some (.ifnull o, n, nx, t, cs, cv)) ↔ rs_X d y t L (st) w Q := Iff.rfl
theorem xi_ifnonnull_r {d : Nat} {y : MethodName} {L : rs_L} {st : List Value} {w : rs_H} {Q : rs_H → Option Value → Prop} {n nx t : Nat} {cs : List (Int32 × Nat)} {cv : Value} (o : Int) (a : Nat) : rs_XD d y L (.ref a :: st) w Q (some (.ifnonnull o, n, nx, t, cs, cv)) ↔ rs_X d y t L (st) w Q := Iff.rfl
theorem xi_ifnonnull_u {d : Nat} {y : MethodName} {L : rs_L} {st : List Value} {w : rs_H} {Q : rs_H → Option Value → Prop} {n nx t : Nat} {cs : List (Int32 × Nat)} {cv : Value} (o : Int) : rs_XD d y L (.null :: st) w Q (some (.ifnonnull o, n, nx, t, cs, cv)) ↔ rs_X d y nx L (st) w Q := Iff.rfl
theorem xi_ifnull_rf {d : Nat} {y : MethodName} {L : rs_L} {st : List Value} {w : rs_H} {Q : rs_H → Option Value → Prop} {n nx t : Nat} {cs : List (Int32 × Nat)} {cv : Value} (o : Int) (r : Option Nat) : rs_XD d y L (va_rf r :: st) w Q (some (.ifnull o, n, nx, t, cs, cv)) ↔ if r = none then rs_X d y t L (st) w Q else rs_X d y nx L (st) w Q := by
  cases r <;> exact Iff.rfl
theorem xi_ifnonnull_rf {d : Nat} {y : MethodName} {L : rs_L} {st : List Value} {w : rs_H} {Q : rs_H → Option Value → Prop} {n nx t : Nat} {cs : List (Int32 × Nat)} {cv : Value} (o : Int) (r : Option Nat) : rs_XD d y L (va_rf r :: st) w Q (some (.ifnonnull o, n, nx, t, cs, cv)) ↔ if r = none then rs_X d y nx L (st) w Q else rs_X d y t L (st) w Q := by
  cases r <;> exact Iff.rfl
theorem xi_switch {d : Nat} {y : MethodName} {L : rs_L} {st : List Value} {w : rs_H} {Q : rs_H → Option Value → Prop} {n nx t : Nat} {cs : List (Int32 × Nat)} {cv : Value} (a : Int32) (d1 lo hi : Int) (offs : Array Int) : rs_XD d y L (.int a :: st) w Q (some (.tableswitch d1 lo hi offs, n, nx, t, cs, cv)) ↔ rs_X d y (rs_sw cs t a) L (st) w Q := Iff.rfl
theorem xi_getfield {d : Nat} {y : MethodName} {L : rs_L} {st : List Value} {w : rs_H} {Q : rs_H → Option Value → Prop} {n nx t : Nat} {cs : List (Int32 × Nat)} {cv : Value} (i q : Nat) : rs_XD d y L (.ref q :: st) w Q (some (.getfield i, n, nx, t, cs, cv)) ↔ rs_gf (rs_fl y.cls i) (w.1 q) fun v => rs_X d y nx L (v :: st) w Q := by
  show rs_XO d y L w Q ((rs_get (rs_fl y.cls i) (.ref q :: st) w).map fun s => .inl (nx, L, s, w)) ↔ _
  unfold rs_get rs_gf
  cases rs_fl y.cls i with
  | none => exact Iff.rfl
  | some f =>
    dsimp only
    cases w.1 q with
    | none => exact Iff.rfl
    | some c =>
      dsimp only
      by_cases h : c.1 = f.1
      · rw [if_pos h]; exact ⟨fun z => ⟨h, z⟩, fun z => z.2⟩
      · rw [if_neg h]; exact ⟨fun z => z.elim, fun z => absurd z.1 h⟩
theorem xi_putfield {d : Nat} {y : MethodName} {L : rs_L} {st : List Value} {w : rs_H} {Q : rs_H → Option Value → Prop} {n nx t : Nat} {cs : List (Int32 × Nat)} {cv : Value} (i q : Nat) (v : Value) : rs_XD d y L (v :: .ref q :: st) w Q (some (.putfield i, n, nx, t, cs, cv)) ↔ rs_pf (rs_pfl y i) (w.1 q) v fun c => rs_X d y nx L (st) (rs_up w q c) Q := by
  show rs_XO d y L w Q ((rs_put (rs_pfl y i) (v :: .ref q :: st) w).map fun s => .inl (nx, L, s.1, s.2)) ↔ _
  unfold rs_put rs_pf
  cases rs_pfl y i with
  | none => exact Iff.rfl
  | some f =>
    dsimp only
    cases w.1 q with
    | none => exact Iff.rfl
    | some c =>
      dsimp only
      by_cases h : c.1 = f.1 ∧ fits f.2.2 v = true
      · rw [if_pos h]; exact ⟨fun z => ⟨h, z⟩, fun z => z.2⟩
      · rw [if_neg h]; exact ⟨fun z => z.elim, fun z => absurd z.1 h⟩
theorem xi_iaload {d : Nat} {y : MethodName} {L : rs_L} {st : List Value} {w : rs_H} {Q : rs_H → Option Value → Prop} {n nx t : Nat} {cs : List (Int32 × Nat)} {cv : Value} (q : Nat) (i : Int32) : rs_XD d y L (.int i :: .ref q :: st) w Q (some (.iaload, n, nx, t, cs, cv)) ↔ rs_ar 12 (w.1 q) i fun v => rs_X d y nx L (v :: st) w Q := by
  show rs_XO d y L w Q ((rs_ald 12 (.int i :: .ref q :: st) w).map fun s => .inl (nx, L, s, w)) ↔ _
  unfold rs_ald rs_ar rs_in
  dsimp only
  cases w.1 q with
  | none => exact Iff.rfl
  | some c =>
    dsimp only
    by_cases h : rs_okK 12 c.1 = true ∧ ¬ i < 0 ∧ i.toNatClampNeg < c.2.1
    · rw [if_pos h]; exact ⟨fun z => ⟨h.1, h.2, z⟩, fun z => z.2.2⟩
    · rw [if_neg h]; exact ⟨fun z => z.elim, fun z => absurd ⟨z.1, z.2.1⟩ h⟩
theorem xi_laload {d : Nat} {y : MethodName} {L : rs_L} {st : List Value} {w : rs_H} {Q : rs_H → Option Value → Prop} {n nx t : Nat} {cs : List (Int32 × Nat)} {cv : Value} (q : Nat) (i : Int32) : rs_XD d y L (.int i :: .ref q :: st) w Q (some (.laload, n, nx, t, cs, cv)) ↔ rs_ar 13 (w.1 q) i fun v => rs_X d y nx L (v :: st) w Q := by
  show rs_XO d y L w Q ((rs_ald 13 (.int i :: .ref q :: st) w).map fun s => .inl (nx, L, s, w)) ↔ _
  unfold rs_ald rs_ar rs_in
  dsimp only
  cases w.1 q with
  | none => exact Iff.rfl
  | some c =>
    dsimp only
    by_cases h : rs_okK 13 c.1 = true ∧ ¬ i < 0 ∧ i.toNatClampNeg < c.2.1
    · rw [if_pos h]; exact ⟨fun z => ⟨h.1, h.2, z⟩, fun z => z.2.2⟩
    · rw [if_neg h]; exact ⟨fun z => z.elim, fun z => absurd ⟨z.1, z.2.1⟩ h⟩
theorem xi_baload {d : Nat} {y : MethodName} {L : rs_L} {st : List Value} {w : rs_H} {Q : rs_H → Option Value → Prop} {n nx t : Nat} {cs : List (Int32 × Nat)} {cv : Value} (q : Nat) (i : Int32) : rs_XD d y L (.int i :: .ref q :: st) w Q (some (.baload, n, nx, t, cs, cv)) ↔ rs_ar 14 (w.1 q) i fun v => rs_X d y nx L (v :: st) w Q := by
  show rs_XO d y L w Q ((rs_ald 14 (.int i :: .ref q :: st) w).map fun s => .inl (nx, L, s, w)) ↔ _
  unfold rs_ald rs_ar rs_in
  dsimp only
  cases w.1 q with
  | none => exact Iff.rfl
  | some c =>
    dsimp only
    by_cases h : rs_okK 14 c.1 = true ∧ ¬ i < 0 ∧ i.toNatClampNeg < c.2.1
    · rw [if_pos h]; exact ⟨fun z => ⟨h.1, h.2, z⟩, fun z => z.2.2⟩
    · rw [if_neg h]; exact ⟨fun z => z.elim, fun z => absurd ⟨z.1, z.2.1⟩ h⟩
theorem xi_aaload {d : Nat} {y : MethodName} {L : rs_L} {st : List Value} {w : rs_H} {Q : rs_H → Option Value → Prop} {n nx t : Nat} {cs : List (Int32 × Nat)} {cv : Value} (q : Nat) (i : Int32) : rs_XD d y L (.int i :: .ref q :: st) w Q (some (.aaload, n, nx, t, cs, cv)) ↔ rs_ar 99 (w.1 q) i fun v => rs_X d y nx L (v :: st) w Q := by
  show rs_XO d y L w Q ((rs_ald 99 (.int i :: .ref q :: st) w).map fun s => .inl (nx, L, s, w)) ↔ _
  unfold rs_ald rs_ar rs_in
  dsimp only
  cases w.1 q with
  | none => exact Iff.rfl
  | some c =>
    dsimp only
    by_cases h : rs_okK 99 c.1 = true ∧ ¬ i < 0 ∧ i.toNatClampNeg < c.2.1
    · rw [if_pos h]; exact ⟨fun z => ⟨h.1, h.2, z⟩, fun z => z.2.2⟩
    · rw [if_neg h]; exact ⟨fun z => z.elim, fun z => absurd ⟨z.1, z.2.1⟩ h⟩
theorem xi_iastore {d : Nat} {y : MethodName} {L : rs_L} {st : List Value} {w : rs_H} {Q : rs_H → Option Value → Prop} {n nx t : Nat} {cs : List (Int32 × Nat)} {cv : Value} (q : Nat) (i : Int32) (v : Value) : rs_XD d y L (v :: .int i :: .ref q :: st) w Q (some (.iastore, n, nx, t, cs, cv)) ↔ rs_aw 12 w q (w.1 q) i v fun c => rs_X d y nx L (st) (rs_up w q c) Q := by
  show rs_XO d y L w Q ((rs_ast 12 (v :: .int i :: .ref q :: st) w).map fun s => .inl (nx, L, s.1, s.2)) ↔ _
  unfold rs_ast rs_aw rs_in
  dsimp only
  cases w.1 q with
  | none => exact Iff.rfl
  | some c =>
    dsimp only
    by_cases h : (¬ q = 0 ∧ rs_okK 12 c.1 = true ∧ rs_okV w 12 c.1 v = true) ∧ ¬ i < 0 ∧ i.toNatClampNeg < c.2.1
    · rw [if_pos h]; exact ⟨fun z => ⟨h, z⟩, fun z => z.2⟩
    · rw [if_neg h]; exact ⟨fun z => z.elim, fun z => absurd z.1 h⟩
theorem xi_lastore {d : Nat} {y : MethodName} {L : rs_L} {st : List Value} {w : rs_H} {Q : rs_H → Option Value → Prop} {n nx t : Nat} {cs : List (Int32 × Nat)} {cv : Value} (q : Nat) (i : Int32) (v : Value) : rs_XD d y L (v :: .int i :: .ref q :: st) w Q (some (.lastore, n, nx, t, cs, cv)) ↔ rs_aw 13 w q (w.1 q) i v fun c => rs_X d y nx L (st) (rs_up w q c) Q := by
  show rs_XO d y L w Q ((rs_ast 13 (v :: .int i :: .ref q :: st) w).map fun s => .inl (nx, L, s.1, s.2)) ↔ _
  unfold rs_ast rs_aw rs_in
  dsimp only
  cases w.1 q with
  | none => exact Iff.rfl
  | some c =>
    dsimp only
    by_cases h : (¬ q = 0 ∧ rs_okK 13 c.1 = true ∧ rs_okV w 13 c.1 v = true) ∧ ¬ i < 0 ∧ i.toNatClampNeg < c.2.1
    · rw [if_pos h]; exact ⟨fun z => ⟨h, z⟩, fun z => z.2⟩
    · rw [if_neg h]; exact ⟨fun z => z.elim, fun z => absurd z.1 h⟩
theorem xi_bastore {d : Nat} {y : MethodName} {L : rs_L} {st : List Value} {w : rs_H} {Q : rs_H → Option Value → Prop} {n nx t : Nat} {cs : List (Int32 × Nat)} {cv : Value} (q : Nat) (i : Int32) (v : Value) : rs_XD d y L (v :: .int i :: .ref q :: st) w Q (some (.bastore, n, nx, t, cs, cv)) ↔ rs_aw 14 w q (w.1 q) i v fun c => rs_X d y nx L (st) (rs_up w q c) Q := by
  show rs_XO d y L w Q ((rs_ast 14 (v :: .int i :: .ref q :: st) w).map fun s => .inl (nx, L, s.1, s.2)) ↔ _
  unfold rs_ast rs_aw rs_in
  dsimp only
  cases w.1 q with
  | none => exact Iff.rfl
  | some c =>
    dsimp only
    by_cases h : (¬ q = 0 ∧ rs_okK 14 c.1 = true ∧ rs_okV w 14 c.1 v = true) ∧ ¬ i < 0 ∧ i.toNatClampNeg < c.2.1
    · rw [if_pos h]; exact ⟨fun z => ⟨h, z⟩, fun z => z.2⟩
    · rw [if_neg h]; exact ⟨fun z => z.elim, fun z => absurd z.1 h⟩
theorem xi_aastore {d : Nat} {y : MethodName} {L : rs_L} {st : List Value} {w : rs_H} {Q : rs_H → Option Value → Prop} {n nx t : Nat} {cs : List (Int32 × Nat)} {cv : Value} (q : Nat) (i : Int32) (v : Value) : rs_XD d y L (v :: .int i :: .ref q :: st) w Q (some (.aastore, n, nx, t, cs, cv)) ↔ rs_aw 99 w q (w.1 q) i v fun c => rs_X d y nx L (st) (rs_up w q c) Q := by
  show rs_XO d y L w Q ((rs_ast 99 (v :: .int i :: .ref q :: st) w).map fun s => .inl (nx, L, s.1, s.2)) ↔ _
  unfold rs_ast rs_aw rs_in
  dsimp only
  cases w.1 q with
  | none => exact Iff.rfl
  | some c =>
    dsimp only
    by_cases h : (¬ q = 0 ∧ rs_okK 99 c.1 = true ∧ rs_okV w 99 c.1 v = true) ∧ ¬ i < 0 ∧ i.toNatClampNeg < c.2.1
    · rw [if_pos h]; exact ⟨fun z => ⟨h, z⟩, fun z => z.2⟩
    · rw [if_neg h]; exact ⟨fun z => z.elim, fun z => absurd z.1 h⟩
theorem xi_alen {d : Nat} {y : MethodName} {L : rs_L} {st : List Value} {w : rs_H} {Q : rs_H → Option Value → Prop} {n nx t : Nat} {cs : List (Int32 × Nat)} {cv : Value} (q : Nat) : rs_XD d y L (.ref q :: st) w Q (some (.arraylength, n, nx, t, cs, cv)) ↔ rs_lenk (w.1 q) fun v => rs_X d y nx L (.int v :: st) w Q := by
  show rs_XO d y L w Q ((rs_alen (.ref q :: st) w).map fun s => .inl (nx, L, s, w)) ↔ _
  unfold rs_alen rs_lenk
  dsimp only
  cases w.1 q with
  | none => exact Iff.rfl
  | some c =>
    dsimp only
    by_cases h : 12 ≤ c.1
    · rw [if_pos h]; exact ⟨fun z => ⟨h, z⟩, fun z => z.2⟩
    · rw [if_neg h]; exact ⟨fun z => z.elim, fun z => absurd z.1 h⟩
theorem xi_newo {d : Nat} {y : MethodName} {L : rs_L} {st : List Value} {w : rs_H} {Q : rs_H → Option Value → Prop} {n nx t : Nat} {cs : List (Int32 × Nat)} {cv : Value} (i : Nat) : rs_XD d y L (st) w Q (some (.new i, n, nx, t, cs, cv)) ↔ rs_wn (rs_nw y.cls i) fun k m => rs_X d y nx L (.ref w.2.1 :: st) (rs_new w (k, m, fun j => defaultValue (rs_ty k j))) Q := by
  show rs_XO d y L w Q ((rs_newo (rs_nw y.cls i) st w).map fun s => .inl (nx, L, s.1, s.2)) ↔ _
  unfold rs_newo rs_wn
  cases rs_nw y.cls i <;> exact Iff.rfl
theorem xi_newarray {d : Nat} {y : MethodName} {L : rs_L} {st : List Value} {w : rs_H} {Q : rs_H → Option Value → Prop} {n nx t : Nat} {cs : List (Int32 × Nat)} {cv : Value} (i : ArrayType) (z : Int32) : rs_XD d y L (.int z :: st) w Q (some (.newarray i, n, nx, t, cs, cv)) ↔ rs_wa (rs_nk i) z fun k => rs_X d y nx L (.ref w.2.1 :: st) (rs_new w (k, z.toNatClampNeg, fun _ => rs_dvk k)) Q := by
  show rs_XO d y L w Q ((rs_newa (rs_nk i) (.int z :: st) w).map fun s => .inl (nx, L, s.1, s.2)) ↔ _
  unfold rs_newa rs_wa
  cases (rs_nk i) with
  | none => exact Iff.rfl
  | some k =>
    dsimp only
    by_cases h : ¬ z < 0 ∧ z.toNatClampNeg ≤ 65536
    · rw [if_pos h]; exact ⟨fun z => ⟨h, z⟩, fun z => z.2⟩
    · rw [if_neg h]; exact ⟨fun z => z.elim, fun z => absurd z.1 h⟩
theorem xi_anewarray {d : Nat} {y : MethodName} {L : rs_L} {st : List Value} {w : rs_H} {Q : rs_H → Option Value → Prop} {n nx t : Nat} {cs : List (Int32 × Nat)} {cv : Value} (i : Nat) (z : Int32) : rs_XD d y L (.int z :: st) w Q (some (.anewarray i, n, nx, t, cs, cv)) ↔ rs_wa (rs_na y.cls i) z fun k => rs_X d y nx L (.ref w.2.1 :: st) (rs_new w (k, z.toNatClampNeg, fun _ => rs_dvk k)) Q := by
  show rs_XO d y L w Q ((rs_newa (rs_na y.cls i) (.int z :: st) w).map fun s => .inl (nx, L, s.1, s.2)) ↔ _
  unfold rs_newa rs_wa
  cases (rs_na y.cls i) with
  | none => exact Iff.rfl
  | some k =>
    dsimp only
    by_cases h : ¬ z < 0 ∧ z.toNatClampNeg ≤ 65536
    · rw [if_pos h]; exact ⟨fun z => ⟨h, z⟩, fun z => z.2⟩
    · rw [if_neg h]; exact ⟨fun z => z.elim, fun z => absurd z.1 h⟩
theorem xi_ireturn {d : Nat} {y : MethodName} {L : rs_L} {w : rs_H} {Q : rs_H → Option Value → Prop} {n nx t : Nat} {cs : List (Int32 × Nat)} {cv : Value} (v : Int32) : rs_XD d y L ([.int v]) w Q (some (.ireturn, n, nx, t, cs, cv)) ↔ rs_RI (rs_rt y) v (Q w (some (.int v))) := by
  show rs_XO d y L w Q (match [Value.int v], rs_rt y with | [.int v], some t => if rs_fz t v = true then some (.inr (.inr (some (.int v)))) else none | _, _ => none) ↔ _
  unfold rs_RI
  cases rs_rt y with
  | none => exact Iff.rfl
  | some t =>
    dsimp only
    by_cases h : rs_fz t v = true
    · rw [if_pos h]; exact ⟨fun z => ⟨h, z⟩, fun z => z.2⟩
    · rw [if_neg h]; exact ⟨fun z => z.elim, fun z => absurd z.1 h⟩
theorem xi_lreturn {d : Nat} {y : MethodName} {L : rs_L} {w : rs_H} {Q : rs_H → Option Value → Prop} {n nx t : Nat} {cs : List (Int32 × Nat)} {cv : Value} (v : Int64) : rs_XD d y L ([.long v]) w Q (some (.lreturn, n, nx, t, cs, cv)) ↔ rs_RJ (rs_rt y) (Q w (some (.long v))) := by
  show rs_XO d y L w Q (match [Value.long v], rs_rt y with | [.long v], some .long => some (.inr (.inr (some (.long v)))) | _, _ => none) ↔ _
  unfold rs_RJ
  cases rs_rt y with
  | none => exact Iff.rfl
  | some t => cases t <;> exact Iff.rfl
theorem xi_areturn_r {d : Nat} {y : MethodName} {L : rs_L} {w : rs_H} {Q : rs_H → Option Value → Prop} {n nx t : Nat} {cs : List (Int32 × Nat)} {cv : Value} (v : Nat) : rs_XD d y L ([.ref v]) w Q (some (.areturn, n, nx, t, cs, cv)) ↔ rs_RA (rs_rt y) (Q w (some (.ref v))) := by
  show rs_XO d y L w Q (match [.ref v], rs_rt y with | [v], some (.object _) => if rs_isr v = true then some (.inr (.inr (some v))) else none | _, _ => none) ↔ _
  unfold rs_RA
  cases rs_rt y with
  | none => exact Iff.rfl
  | some t =>
    cases t <;> first | exact Iff.rfl | skip
theorem xi_areturn_u {d : Nat} {y : MethodName} {L : rs_L} {w : rs_H} {Q : rs_H → Option Value → Prop} {n nx t : Nat} {cs : List (Int32 × Nat)} {cv : Value} : rs_XD d y L ([.null]) w Q (some (.areturn, n, nx, t, cs, cv)) ↔ rs_RA (rs_rt y) (Q w (some (.null))) := by
  show rs_XO d y L w Q (match [.null], rs_rt y with | [v], some (.object _) => if rs_isr v = true then some (.inr (.inr (some v))) else none | _, _ => none) ↔ _
  unfold rs_RA
  cases rs_rt y with
  | none => exact Iff.rfl
  | some t =>
    cases t <;> first | exact Iff.rfl | skip
theorem xi_areturn_rf {d : Nat} {y : MethodName} {L : rs_L} {w : rs_H} {Q : rs_H → Option Value → Prop} {n nx t : Nat} {cs : List (Int32 × Nat)} {cv : Value} (v : Option Nat) : rs_XD d y L ([va_rf v]) w Q (some (.areturn, n, nx, t, cs, cv)) ↔ rs_RA (rs_rt y) (Q w (some (va_rf v))) := by
  show rs_XO d y L w Q (match [va_rf v], rs_rt y with | [v], some (.object _) => if rs_isr v = true then some (.inr (.inr (some v))) else none | _, _ => none) ↔ _
  unfold rs_RA
  cases rs_rt y with
  | none => exact Iff.rfl
  | some t =>
    cases t <;> first | exact Iff.rfl | skip
    dsimp only
    rw [if_pos (rs_isr_rf v)]
    exact Iff.rfl
theorem xi_return {d : Nat} {y : MethodName} {L : rs_L} {w : rs_H} {Q : rs_H → Option Value → Prop} {n nx t : Nat} {cs : List (Int32 × Nat)} {cv : Value} : rs_XD d y L ([]) w Q (some (.return_, n, nx, t, cs, cv)) ↔ rs_RV (rs_rt y) (Q w none) := by
  show rs_XO d y L w Q (match ([] : List Value), rs_rt y with | [], none => some (.inr (.inr none)) | _, _ => none) ↔ _
  unfold rs_RV
  cases rs_rt y with
  | none => exact Iff.rfl
  | some t => exact Iff.rfl
theorem xi_static {d : Nat} {y : MethodName} {L : rs_L} {st : List Value} {w : rs_H} {Q : rs_H → Option Value → Prop} {n nx t : Nat} {cs : List (Int32 × Nat)} {cv : Value} (i : Nat) : rs_XD d y L (st) w Q (some (.invokestatic i, n, nx, t, cs, cv)) ↔ rs_XS d y L nx w Q (rs_lk 0 y.cls i) (rs_jm y.cls i) st := by
  unfold rs_XD rs_exec rs_XS
  dsimp only
  cases rs_lk 0 y.cls i with
  | some f => exact Iff.rfl
  | none =>
    dsimp only
    cases rs_mth (rs_jm y.cls i) st <;> exact Iff.rfl
theorem xi_virtual {d : Nat} {y : MethodName} {L : rs_L} {st : List Value} {w : rs_H} {Q : rs_H → Option Value → Prop} {n nx t : Nat} {cs : List (Int32 × Nat)} {cv : Value} (i : Nat) : rs_XD d y L (st) w Q (some (.invokevirtual i, n, nx, t, cs, cv)) ↔ rs_XC d y L nx w Q (rs_lk 1 y.cls i) 1 st := Iff.rfl
theorem xi_special {d : Nat} {y : MethodName} {L : rs_L} {st : List Value} {w : rs_H} {Q : rs_H → Option Value → Prop} {n nx t : Nat} {cs : List (Int32 × Nat)} {cv : Value} (i : Nat) : rs_XD d y L (st) w Q (some (.invokespecial i, n, nx, t, cs, cv)) ↔ rs_OI (rs_oi y.cls i) y i d L nx w Q st := by
  unfold rs_XD rs_exec rs_OI
  dsimp only
  cases rs_oi y.cls i with
  | false => exact Iff.rfl
  | true =>
    dsimp only [cond_true]
    cases st with
    | nil => exact Iff.rfl
    | cons a s =>
      cases a <;> first | exact Iff.rfl | skip
      dsimp only
      by_cases h4 : rs_s4 s = true
      · rw [if_pos h4]; exact ⟨fun z => ⟨h4, z⟩, fun z => z.2⟩
      · rw [if_neg h4]; exact ⟨fun z => z.elim, fun z => absurd z.1 h4⟩
theorem xc_s0 {d : Nat} {y : MethodName} {L : rs_L} {st : List Value} {w : rs_H} {Q : rs_H → Option Value → Prop} {nx : Nat} (f : MethodName) (k : Nat) : rs_XC (d + 1) y L nx w Q (some (f, 0, k)) 0 (st) ↔ rs_s4 st = true ∧ rs_XM d f [] w (fun w' v => rs_X (d + 1) y nx L (rs_push v st) w' Q) := by
  show rs_XO (d + 1) y L w Q (if rs_s4 st = true then some (.inr (.inl (f, [], nx, st))) else none) ↔ _
  by_cases h : rs_s4 st = true
  · rw [if_pos h]; exact ⟨fun z => ⟨h, z⟩, fun z => z.2⟩
  · rw [if_neg h]; exact ⟨fun z => z.elim, fun z => absurd z.1 h⟩
theorem xc_v0 {d : Nat} {y : MethodName} {L : rs_L} {st : List Value} {w : rs_H} {Q : rs_H → Option Value → Prop} {nx : Nat} (f : MethodName) (k : Nat) (q : Nat) : rs_XC (d + 1) y L nx w Q (some (f, 0, k)) 1 (.ref q :: st) ↔ rs_isK (w.1 q) k ∧ rs_s4 st = true ∧ rs_XM d f [.ref q] w (fun w' v => rs_X (d + 1) y nx L (rs_push v st) w' Q) := by
  show rs_XO (d + 1) y L w Q (match w.1 q with | some c => if (decide (c.1 = k) && rs_s4 st) = true then some (.inr (.inl (f, [.ref q], nx, st))) else none | none => none) ↔ _
  unfold rs_isK
  cases w.1 q with
  | none => exact ⟨fun z => z.elim, fun z => z.1.elim⟩
  | some c =>
    dsimp only
    by_cases h : (decide (c.1 = k) && rs_s4 st) = true
    · rw [if_pos h]
      simp only [Bool.and_eq_true, decide_eq_true_eq] at h
      exact ⟨fun z => ⟨h.1, h.2, z⟩, fun z => z.2.2⟩
    · rw [if_neg h]
      simp only [Bool.and_eq_true, decide_eq_true_eq] at h
      exact ⟨fun z => z.elim, fun z => absurd ⟨z.1, z.2.1⟩ h⟩
theorem xc_p0 {d : Nat} {y : MethodName} {L : rs_L} {st : List Value} {w : rs_H} {Q : rs_H → Option Value → Prop} {nx : Nat} (f : MethodName) (k : Nat) (q : Nat) : rs_XC (d + 1) y L nx w Q (some (f, 0, k)) 2 (.ref q :: st) ↔ rs_s4 st = true ∧ rs_XM d f [.ref q] w (fun w' v => rs_X (d + 1) y nx L (rs_push v st) w' Q) := by
  show rs_XO (d + 1) y L w Q (if rs_s4 st = true then some (.inr (.inl (f, [.ref q], nx, st))) else none) ↔ _
  by_cases h : rs_s4 st = true
  · rw [if_pos h]; exact ⟨fun z => ⟨h, z⟩, fun z => z.2⟩
  · rw [if_neg h]; exact ⟨fun z => z.elim, fun z => absurd z.1 h⟩
theorem xc_s1 {d : Nat} {y : MethodName} {L : rs_L} {st : List Value} {w : rs_H} {Q : rs_H → Option Value → Prop} {nx : Nat} (f : MethodName) (k : Nat) (a0 : Value) : rs_XC (d + 1) y L nx w Q (some (f, 1, k)) 0 (a0 :: st) ↔ rs_s4 st = true ∧ rs_XM d f [a0] w (fun w' v => rs_X (d + 1) y nx L (rs_push v st) w' Q) := by
  show rs_XO (d + 1) y L w Q (if rs_s4 st = true then some (.inr (.inl (f, [a0], nx, st))) else none) ↔ _
  by_cases h : rs_s4 st = true
  · rw [if_pos h]; exact ⟨fun z => ⟨h, z⟩, fun z => z.2⟩
  · rw [if_neg h]; exact ⟨fun z => z.elim, fun z => absurd z.1 h⟩
theorem xc_v1 {d : Nat} {y : MethodName} {L : rs_L} {st : List Value} {w : rs_H} {Q : rs_H → Option Value → Prop} {nx : Nat} (f : MethodName) (k : Nat) (q : Nat) (a0 : Value) : rs_XC (d + 1) y L nx w Q (some (f, 1, k)) 1 (a0 :: .ref q :: st) ↔ rs_isK (w.1 q) k ∧ rs_s4 st = true ∧ rs_XM d f [.ref q, a0] w (fun w' v => rs_X (d + 1) y nx L (rs_push v st) w' Q) := by
  show rs_XO (d + 1) y L w Q (match w.1 q with | some c => if (decide (c.1 = k) && rs_s4 st) = true then some (.inr (.inl (f, [.ref q, a0], nx, st))) else none | none => none) ↔ _
  unfold rs_isK
  cases w.1 q with
  | none => exact ⟨fun z => z.elim, fun z => z.1.elim⟩
  | some c =>
    dsimp only
    by_cases h : (decide (c.1 = k) && rs_s4 st) = true
    · rw [if_pos h]
      simp only [Bool.and_eq_true, decide_eq_true_eq] at h
      exact ⟨fun z => ⟨h.1, h.2, z⟩, fun z => z.2.2⟩
    · rw [if_neg h]
      simp only [Bool.and_eq_true, decide_eq_true_eq] at h
      exact ⟨fun z => z.elim, fun z => absurd ⟨z.1, z.2.1⟩ h⟩
theorem xc_p1 {d : Nat} {y : MethodName} {L : rs_L} {st : List Value} {w : rs_H} {Q : rs_H → Option Value → Prop} {nx : Nat} (f : MethodName) (k : Nat) (q : Nat) (a0 : Value) : rs_XC (d + 1) y L nx w Q (some (f, 1, k)) 2 (a0 :: .ref q :: st) ↔ rs_s4 st = true ∧ rs_XM d f [.ref q, a0] w (fun w' v => rs_X (d + 1) y nx L (rs_push v st) w' Q) := by
  show rs_XO (d + 1) y L w Q (if rs_s4 st = true then some (.inr (.inl (f, [.ref q, a0], nx, st))) else none) ↔ _
  by_cases h : rs_s4 st = true
  · rw [if_pos h]; exact ⟨fun z => ⟨h, z⟩, fun z => z.2⟩
  · rw [if_neg h]; exact ⟨fun z => z.elim, fun z => absurd z.1 h⟩
theorem xc_s2 {d : Nat} {y : MethodName} {L : rs_L} {st : List Value} {w : rs_H} {Q : rs_H → Option Value → Prop} {nx : Nat} (f : MethodName) (k : Nat) (a0 a1 : Value) : rs_XC (d + 1) y L nx w Q (some (f, 2, k)) 0 (a1 :: a0 :: st) ↔ rs_s4 st = true ∧ rs_XM d f [a0, a1] w (fun w' v => rs_X (d + 1) y nx L (rs_push v st) w' Q) := by
  show rs_XO (d + 1) y L w Q (if rs_s4 st = true then some (.inr (.inl (f, [a0, a1], nx, st))) else none) ↔ _
  by_cases h : rs_s4 st = true
  · rw [if_pos h]; exact ⟨fun z => ⟨h, z⟩, fun z => z.2⟩
  · rw [if_neg h]; exact ⟨fun z => z.elim, fun z => absurd z.1 h⟩
theorem xc_v2 {d : Nat} {y : MethodName} {L : rs_L} {st : List Value} {w : rs_H} {Q : rs_H → Option Value → Prop} {nx : Nat} (f : MethodName) (k : Nat) (q : Nat) (a0 a1 : Value) : rs_XC (d + 1) y L nx w Q (some (f, 2, k)) 1 (a1 :: a0 :: .ref q :: st) ↔ rs_isK (w.1 q) k ∧ rs_s4 st = true ∧ rs_XM d f [.ref q, a0, a1] w (fun w' v => rs_X (d + 1) y nx L (rs_push v st) w' Q) := by
  show rs_XO (d + 1) y L w Q (match w.1 q with | some c => if (decide (c.1 = k) && rs_s4 st) = true then some (.inr (.inl (f, [.ref q, a0, a1], nx, st))) else none | none => none) ↔ _
  unfold rs_isK
  cases w.1 q with
  | none => exact ⟨fun z => z.elim, fun z => z.1.elim⟩
  | some c =>
    dsimp only
    by_cases h : (decide (c.1 = k) && rs_s4 st) = true
    · rw [if_pos h]
      simp only [Bool.and_eq_true, decide_eq_true_eq] at h
      exact ⟨fun z => ⟨h.1, h.2, z⟩, fun z => z.2.2⟩
    · rw [if_neg h]
      simp only [Bool.and_eq_true, decide_eq_true_eq] at h
      exact ⟨fun z => z.elim, fun z => absurd ⟨z.1, z.2.1⟩ h⟩
theorem xc_p2 {d : Nat} {y : MethodName} {L : rs_L} {st : List Value} {w : rs_H} {Q : rs_H → Option Value → Prop} {nx : Nat} (f : MethodName) (k : Nat) (q : Nat) (a0 a1 : Value) : rs_XC (d + 1) y L nx w Q (some (f, 2, k)) 2 (a1 :: a0 :: .ref q :: st) ↔ rs_s4 st = true ∧ rs_XM d f [.ref q, a0, a1] w (fun w' v => rs_X (d + 1) y nx L (rs_push v st) w' Q) := by
  show rs_XO (d + 1) y L w Q (if rs_s4 st = true then some (.inr (.inl (f, [.ref q, a0, a1], nx, st))) else none) ↔ _
  by_cases h : rs_s4 st = true
  · rw [if_pos h]; exact ⟨fun z => ⟨h, z⟩, fun z => z.2⟩
  · rw [if_neg h]; exact ⟨fun z => z.elim, fun z => absurd z.1 h⟩
theorem xc_s3 {d : Nat} {y : MethodName} {L : rs_L} {st : List Value} {w : rs_H} {Q : rs_H → Option Value → Prop} {nx : Nat} (f : MethodName) (k : Nat) (a0 a1 a2 : Value) : rs_XC (d + 1) y L nx w Q (some (f, 3, k)) 0 (a2 :: a1 :: a0 :: st) ↔ rs_s4 st = true ∧ rs_XM d f [a0, a1, a2] w (fun w' v => rs_X (d + 1) y nx L (rs_push v st) w' Q) := by
  show rs_XO (d + 1) y L w Q (if rs_s4 st = true then some (.inr (.inl (f, [a0, a1, a2], nx, st))) else none) ↔ _
  by_cases h : rs_s4 st = true
  · rw [if_pos h]; exact ⟨fun z => ⟨h, z⟩, fun z => z.2⟩
  · rw [if_neg h]; exact ⟨fun z => z.elim, fun z => absurd z.1 h⟩
theorem xc_v3 {d : Nat} {y : MethodName} {L : rs_L} {st : List Value} {w : rs_H} {Q : rs_H → Option Value → Prop} {nx : Nat} (f : MethodName) (k : Nat) (q : Nat) (a0 a1 a2 : Value) : rs_XC (d + 1) y L nx w Q (some (f, 3, k)) 1 (a2 :: a1 :: a0 :: .ref q :: st) ↔ rs_isK (w.1 q) k ∧ rs_s4 st = true ∧ rs_XM d f [.ref q, a0, a1, a2] w (fun w' v => rs_X (d + 1) y nx L (rs_push v st) w' Q) := by
  show rs_XO (d + 1) y L w Q (match w.1 q with | some c => if (decide (c.1 = k) && rs_s4 st) = true then some (.inr (.inl (f, [.ref q, a0, a1, a2], nx, st))) else none | none => none) ↔ _
  unfold rs_isK
  cases w.1 q with
  | none => exact ⟨fun z => z.elim, fun z => z.1.elim⟩
  | some c =>
    dsimp only
    by_cases h : (decide (c.1 = k) && rs_s4 st) = true
    · rw [if_pos h]
      simp only [Bool.and_eq_true, decide_eq_true_eq] at h
      exact ⟨fun z => ⟨h.1, h.2, z⟩, fun z => z.2.2⟩
    · rw [if_neg h]
      simp only [Bool.and_eq_true, decide_eq_true_eq] at h
      exact ⟨fun z => z.elim, fun z => absurd ⟨z.1, z.2.1⟩ h⟩
theorem xc_p3 {d : Nat} {y : MethodName} {L : rs_L} {st : List Value} {w : rs_H} {Q : rs_H → Option Value → Prop} {nx : Nat} (f : MethodName) (k : Nat) (q : Nat) (a0 a1 a2 : Value) : rs_XC (d + 1) y L nx w Q (some (f, 3, k)) 2 (a2 :: a1 :: a0 :: .ref q :: st) ↔ rs_s4 st = true ∧ rs_XM d f [.ref q, a0, a1, a2] w (fun w' v => rs_X (d + 1) y nx L (rs_push v st) w' Q) := by
  show rs_XO (d + 1) y L w Q (if rs_s4 st = true then some (.inr (.inl (f, [.ref q, a0, a1, a2], nx, st))) else none) ↔ _
  by_cases h : rs_s4 st = true
  · rw [if_pos h]; exact ⟨fun z => ⟨h, z⟩, fun z => z.2⟩
  · rw [if_neg h]; exact ⟨fun z => z.elim, fun z => absurd z.1 h⟩
theorem xc_s4 {d : Nat} {y : MethodName} {L : rs_L} {st : List Value} {w : rs_H} {Q : rs_H → Option Value → Prop} {nx : Nat} (f : MethodName) (k : Nat) (a0 a1 a2 a3 : Value) : rs_XC (d + 1) y L nx w Q (some (f, 4, k)) 0 (a3 :: a2 :: a1 :: a0 :: st) ↔ rs_s4 st = true ∧ rs_XM d f [a0, a1, a2, a3] w (fun w' v => rs_X (d + 1) y nx L (rs_push v st) w' Q) := by
  show rs_XO (d + 1) y L w Q (if rs_s4 st = true then some (.inr (.inl (f, [a0, a1, a2, a3], nx, st))) else none) ↔ _
  by_cases h : rs_s4 st = true
  · rw [if_pos h]; exact ⟨fun z => ⟨h, z⟩, fun z => z.2⟩
  · rw [if_neg h]; exact ⟨fun z => z.elim, fun z => absurd z.1 h⟩
theorem xc_v4 {d : Nat} {y : MethodName} {L : rs_L} {st : List Value} {w : rs_H} {Q : rs_H → Option Value → Prop} {nx : Nat} (f : MethodName) (k : Nat) (q : Nat) (a0 a1 a2 a3 : Value) : rs_XC (d + 1) y L nx w Q (some (f, 4, k)) 1 (a3 :: a2 :: a1 :: a0 :: .ref q :: st) ↔ rs_isK (w.1 q) k ∧ rs_s4 st = true ∧ rs_XM d f [.ref q, a0, a1, a2, a3] w (fun w' v => rs_X (d + 1) y nx L (rs_push v st) w' Q) := by
  show rs_XO (d + 1) y L w Q (match w.1 q with | some c => if (decide (c.1 = k) && rs_s4 st) = true then some (.inr (.inl (f, [.ref q, a0, a1, a2, a3], nx, st))) else none | none => none) ↔ _
  unfold rs_isK
  cases w.1 q with
  | none => exact ⟨fun z => z.elim, fun z => z.1.elim⟩
  | some c =>
    dsimp only
    by_cases h : (decide (c.1 = k) && rs_s4 st) = true
    · rw [if_pos h]
      simp only [Bool.and_eq_true, decide_eq_true_eq] at h
      exact ⟨fun z => ⟨h.1, h.2, z⟩, fun z => z.2.2⟩
    · rw [if_neg h]
      simp only [Bool.and_eq_true, decide_eq_true_eq] at h
      exact ⟨fun z => z.elim, fun z => absurd ⟨z.1, z.2.1⟩ h⟩
theorem xc_p4 {d : Nat} {y : MethodName} {L : rs_L} {st : List Value} {w : rs_H} {Q : rs_H → Option Value → Prop} {nx : Nat} (f : MethodName) (k : Nat) (q : Nat) (a0 a1 a2 a3 : Value) : rs_XC (d + 1) y L nx w Q (some (f, 4, k)) 2 (a3 :: a2 :: a1 :: a0 :: .ref q :: st) ↔ rs_s4 st = true ∧ rs_XM d f [.ref q, a0, a1, a2, a3] w (fun w' v => rs_X (d + 1) y nx L (rs_push v st) w' Q) := by
  show rs_XO (d + 1) y L w Q (if rs_s4 st = true then some (.inr (.inl (f, [.ref q, a0, a1, a2, a3], nx, st))) else none) ↔ _
  by_cases h : rs_s4 st = true
  · rw [if_pos h]; exact ⟨fun z => ⟨h, z⟩, fun z => z.2⟩
  · rw [if_neg h]; exact ⟨fun z => z.elim, fun z => absurd z.1 h⟩
theorem xc_s5 {d : Nat} {y : MethodName} {L : rs_L} {st : List Value} {w : rs_H} {Q : rs_H → Option Value → Prop} {nx : Nat} (f : MethodName) (k : Nat) (a0 a1 a2 a3 a4 : Value) : rs_XC (d + 1) y L nx w Q (some (f, 5, k)) 0 (a4 :: a3 :: a2 :: a1 :: a0 :: st) ↔ rs_s4 st = true ∧ rs_XM d f [a0, a1, a2, a3, a4] w (fun w' v => rs_X (d + 1) y nx L (rs_push v st) w' Q) := by
  show rs_XO (d + 1) y L w Q (if rs_s4 st = true then some (.inr (.inl (f, [a0, a1, a2, a3, a4], nx, st))) else none) ↔ _
  by_cases h : rs_s4 st = true
  · rw [if_pos h]; exact ⟨fun z => ⟨h, z⟩, fun z => z.2⟩
  · rw [if_neg h]; exact ⟨fun z => z.elim, fun z => absurd z.1 h⟩
theorem xc_v5 {d : Nat} {y : MethodName} {L : rs_L} {st : List Value} {w : rs_H} {Q : rs_H → Option Value → Prop} {nx : Nat} (f : MethodName) (k : Nat) (q : Nat) (a0 a1 a2 a3 a4 : Value) : rs_XC (d + 1) y L nx w Q (some (f, 5, k)) 1 (a4 :: a3 :: a2 :: a1 :: a0 :: .ref q :: st) ↔ rs_isK (w.1 q) k ∧ rs_s4 st = true ∧ rs_XM d f [.ref q, a0, a1, a2, a3, a4] w (fun w' v => rs_X (d + 1) y nx L (rs_push v st) w' Q) := by
  show rs_XO (d + 1) y L w Q (match w.1 q with | some c => if (decide (c.1 = k) && rs_s4 st) = true then some (.inr (.inl (f, [.ref q, a0, a1, a2, a3, a4], nx, st))) else none | none => none) ↔ _
  unfold rs_isK
  cases w.1 q with
  | none => exact ⟨fun z => z.elim, fun z => z.1.elim⟩
  | some c =>
    dsimp only
    by_cases h : (decide (c.1 = k) && rs_s4 st) = true
    · rw [if_pos h]
      simp only [Bool.and_eq_true, decide_eq_true_eq] at h
      exact ⟨fun z => ⟨h.1, h.2, z⟩, fun z => z.2.2⟩
    · rw [if_neg h]
      simp only [Bool.and_eq_true, decide_eq_true_eq] at h
      exact ⟨fun z => z.elim, fun z => absurd ⟨z.1, z.2.1⟩ h⟩
theorem xc_p5 {d : Nat} {y : MethodName} {L : rs_L} {st : List Value} {w : rs_H} {Q : rs_H → Option Value → Prop} {nx : Nat} (f : MethodName) (k : Nat) (q : Nat) (a0 a1 a2 a3 a4 : Value) : rs_XC (d + 1) y L nx w Q (some (f, 5, k)) 2 (a4 :: a3 :: a2 :: a1 :: a0 :: .ref q :: st) ↔ rs_s4 st = true ∧ rs_XM d f [.ref q, a0, a1, a2, a3, a4] w (fun w' v => rs_X (d + 1) y nx L (rs_push v st) w' Q) := by
  show rs_XO (d + 1) y L w Q (if rs_s4 st = true then some (.inr (.inl (f, [.ref q, a0, a1, a2, a3, a4], nx, st))) else none) ↔ _
  by_cases h : rs_s4 st = true
  · rw [if_pos h]; exact ⟨fun z => ⟨h, z⟩, fun z => z.2⟩
  · rw [if_neg h]; exact ⟨fun z => z.elim, fun z => absurd z.1 h⟩
theorem xc_s6 {d : Nat} {y : MethodName} {L : rs_L} {st : List Value} {w : rs_H} {Q : rs_H → Option Value → Prop} {nx : Nat} (f : MethodName) (k : Nat) (a0 a1 a2 a3 a4 a5 : Value) : rs_XC (d + 1) y L nx w Q (some (f, 6, k)) 0 (a5 :: a4 :: a3 :: a2 :: a1 :: a0 :: st) ↔ rs_s4 st = true ∧ rs_XM d f [a0, a1, a2, a3, a4, a5] w (fun w' v => rs_X (d + 1) y nx L (rs_push v st) w' Q) := by
  show rs_XO (d + 1) y L w Q (if rs_s4 st = true then some (.inr (.inl (f, [a0, a1, a2, a3, a4, a5], nx, st))) else none) ↔ _
  by_cases h : rs_s4 st = true
  · rw [if_pos h]; exact ⟨fun z => ⟨h, z⟩, fun z => z.2⟩
  · rw [if_neg h]; exact ⟨fun z => z.elim, fun z => absurd z.1 h⟩
theorem xc_v6 {d : Nat} {y : MethodName} {L : rs_L} {st : List Value} {w : rs_H} {Q : rs_H → Option Value → Prop} {nx : Nat} (f : MethodName) (k : Nat) (q : Nat) (a0 a1 a2 a3 a4 a5 : Value) : rs_XC (d + 1) y L nx w Q (some (f, 6, k)) 1 (a5 :: a4 :: a3 :: a2 :: a1 :: a0 :: .ref q :: st) ↔ rs_isK (w.1 q) k ∧ rs_s4 st = true ∧ rs_XM d f [.ref q, a0, a1, a2, a3, a4, a5] w (fun w' v => rs_X (d + 1) y nx L (rs_push v st) w' Q) := by
  show rs_XO (d + 1) y L w Q (match w.1 q with | some c => if (decide (c.1 = k) && rs_s4 st) = true then some (.inr (.inl (f, [.ref q, a0, a1, a2, a3, a4, a5], nx, st))) else none | none => none) ↔ _
  unfold rs_isK
  cases w.1 q with
  | none => exact ⟨fun z => z.elim, fun z => z.1.elim⟩
  | some c =>
    dsimp only
    by_cases h : (decide (c.1 = k) && rs_s4 st) = true
    · rw [if_pos h]
      simp only [Bool.and_eq_true, decide_eq_true_eq] at h
      exact ⟨fun z => ⟨h.1, h.2, z⟩, fun z => z.2.2⟩
    · rw [if_neg h]
      simp only [Bool.and_eq_true, decide_eq_true_eq] at h
      exact ⟨fun z => z.elim, fun z => absurd ⟨z.1, z.2.1⟩ h⟩
theorem xc_p6 {d : Nat} {y : MethodName} {L : rs_L} {st : List Value} {w : rs_H} {Q : rs_H → Option Value → Prop} {nx : Nat} (f : MethodName) (k : Nat) (q : Nat) (a0 a1 a2 a3 a4 a5 : Value) : rs_XC (d + 1) y L nx w Q (some (f, 6, k)) 2 (a5 :: a4 :: a3 :: a2 :: a1 :: a0 :: .ref q :: st) ↔ rs_s4 st = true ∧ rs_XM d f [.ref q, a0, a1, a2, a3, a4, a5] w (fun w' v => rs_X (d + 1) y nx L (rs_push v st) w' Q) := by
  show rs_XO (d + 1) y L w Q (if rs_s4 st = true then some (.inr (.inl (f, [.ref q, a0, a1, a2, a3, a4, a5], nx, st))) else none) ↔ _
  by_cases h : rs_s4 st = true
  · rw [if_pos h]; exact ⟨fun z => ⟨h, z⟩, fun z => z.2⟩
  · rw [if_neg h]; exact ⟨fun z => z.elim, fun z => absurd z.1 h⟩
