/-! buying: the class lays new stocks -/
theorem cmpS {c k m : Nat} (hc : c < 1073741824) (hk : k < 1073741824) (hm : m < 2147483648) : (nI c - nI k ≤ nI m) ↔ c - k ≤ m := by
  by_cases h : k ≤ c
  · rw [nI_subS h, nI_leS (by omega) hm]
  · have e := pk_sneg (a := c) (b := k) hk (by omega)
    have h0 : (0 : Int32) ≤ nI m := (nI_ge0S hm).mpr trivial
    exact ⟨fun _ => by omega, fun _ => Int32.le_of_lt (Int32.lt_of_lt_of_le e h0)⟩
theorem max_sub2 {c k : Nat} (hc : c < 1073741824) (hk : k < 1073741824) : (if nI c - nI k < nI 0 then nI 0 else nI c - nI k) = nI (c - k) := by
  rw [nI_0]
  by_cases h : k ≤ c
  · rw [nI_subS h, if_neg (fun z => (nI_lt0S (n := c - k) (by omega)).mp z)]
  · have e := pk_sneg (a := c) (b := k) hk (by omega)
    rw [if_pos e, show c - k = 0 by omega, nI_0]
/-- the stock behind a buying -/
def stA (D : Dt) (w : Nat → Nat × Nat × Nat × Nat) (i : Nat) : Nat := (D.ig i).stk + aG D w i - up1 (aftD D i)
def buI (D : Dt) (w : Nat → Nat × Nat × Nat × Nat) : Nat → Dt
  | 0 => D.setP none
  | k + 1 => (buI D w k).setI k ((D.ig k).setSt (stA D w k))
theorem buI_s (D : Dt) (w : Nat → Nat × Nat × Nat × Nat) (k : Nat) : buI D w (k + 1) = (buI D w k).setI k ((D.ig k).setSt (stA D w k)) := rfl
section
variable (P : Nat → Option rs_C) (n s : Nat) (I : Nat → Nat → Int32) (J : Nat → Nat → Int64) (R : Nat → Nat → Option Nat) (d : Nat) (Q : rs_H → Option Value → Prop)
theorem s_bought {i : Nat} (hi : i < 12) : rs_XM d yX6_boughtGramsOf [.ref 56, .int (nI i)] (sk_w P n s I J R) Q ↔ Q (sk_w P n s I J R) (some (.int (I 58 i))) := by
  rw [em_X6_boughtGramsOf]
  simp (disch := omega) only [K_X6_boughtGramsOf, lk_X6_boughtGramsOf, XI, Nat.reduceAdd, Nat.reduceEqDiff, not_false_eq_true, nI_T1, nI_T0, true_and, and_true, WC, WV, WU, nI_lt0S, nI_leS, nI_cl, rs_in_t, if_false, nI_10f, nI_00, not_true_eq_false, not_false_eq_true]
  rw [if_neg (by omega)]
theorem stA_b {D : Dt} (hD : D.ok) {w : Nat → Nat × Nat × Nat × Nat} (hw : chs D w) {i : Nat} (hi : i < 12) : (D.ig i).stk + aG D w i < 1010000 ∧ up1 (aftD D i) ≤ 1000000000 := by
  have h1 := (hD.2.1 i hi).2.2.2.2.1
  have h2 := (aG_le hw hi).1
  have hA := aftD_ok hD i hi
  have h3 := up1_le hA
  have h4 := hA.1
  omega
end
