/-! the reference finds what a recipe needs -/
/-- the loop's law with so much fuel -/
def NL (P : Nat → Option rs_C) (n s : Nat) (R : Nat → Nat → Option Nat) (d : Nat) (D : Dt) (m : Nat) : Prop := ∀ (rest : List It) (h k c op : Nat) (rid pos : Nat → Nat) (fc : Nat → Nat × Nat) (Z : Rc) (I : Nat → Nat → Int32) (J : Nat → Nat → Int64) (Q : rs_H → Option Value → Prop) (x0 : Int32) (x1 x2 : Int64) (z8 z9 z10 : Option Value) (S : Nat → Nat × Nat), m + h = 7 → mDt (I 62) D → HV I J (h + 1) rid pos fc S → pos h = k → D.rc (rid h) = some Z → Z.its.drop k = rest → k ≤ Z.its.length → isF (fc h) → stOk S → c ≤ 300 → op < 256 → (∀ r, r < 8 → op.testBit r = inH rid (h + 1) r) → pc8 op = h + 1 →
    (∀ I' J' S' c' z8 z9 z10, gI I I' → gJ J J' → HV I' J' h rid pos fc S' → stOk S' → c' ≤ 300 → wkL D (fun r Z2 f2 z2 => wk D m (op ||| 2 ^ r) Z2 f2 z2) op (fc h) rest (S, c) = (0, (S', c')) → rs_X (d + 4) yX12_findNeed 66 [some (.ref 61), some (.int x0), some (.long x1), none, some (.long x2), none, some (.int (nI c')), some (.int (nI 0)), z8, z9, z10] [] (sk_w P n s I' J' R) Q) →
    (∀ I' J' y, gI I I' → gJ J J' → ¬ y = 0 → (wkL D (fun r Z2 f2 z2 => wk D m (op ||| 2 ^ r) Z2 f2 z2) op (fc h) rest (S, c)).1 = y → Q (sk_w P n s I' J' R) (some (.int (nI y)))) →
    rs_X (d + 4) yX12_findNeed 66 [some (.ref 61), some (.int x0), some (.long x1), none, some (.long x2), none, some (.int (nI c)), some (.int (nI 0)), z8, z9, z10] [] (sk_w P n s I J R) Q
section
variable (P : Nat → Option rs_C) (n s : Nat) (R : Nat → Nat → Option Nat) (d : Nat)
theorem NL_all {D : Dt} (hD : D.ok) : ∀ m, NL P n s R d D m
  | 0 => X12_need_l P n s R d hD (fun _ _ _ _ _ _ _ _ _ _ _ _ _ _ _ _ _ _ _ e => absurd e (by decide))
  | m + 1 => X12_need_l P n s R d hD (fun rest h k c op rid pos fc Z I J Q x0 x1 x2 z8 z9 z10 S _ => NL_all hD m rest h k c op rid pos fc Z I J Q x0 x1 x2 z8 z9 z10 S)
end
