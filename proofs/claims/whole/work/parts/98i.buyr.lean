/-! buying: the reference's stock afterwards -/
section
variable (P : Nat → Option rs_C) (n s : Nat) (I : Nat → Nat → Int32) (J : Nat → Nat → Int64) (R : Nat → Nat → Option Nat) (d : Nat) (Q : rs_H → Option Value → Prop)
theorem s_stockAfter {D : Dt} (hD : D.ok) {w : Nat → Nat × Nat × Nat × Nat} (hw : chs D w) {i : Nat} (hi : i < 12) (h6 : I 62 (240 + 14 * i + 6) = nI (D.ig i).stk) (h81 : J 81 i = lN (aG D w i)) (m1 : J 67 i = lN (aftD D i).1) (m2 : J 68 i = lN (aftD D i).2) : rs_XM (d + 1) yX12_stockAfter [.ref 61, .int (nI i)] (sk_w P n s I J R) Q ↔ Q (sk_w P n s I J R) (some (.long (lN (stA D w i)))) := by
  have hA := aftD_ok hD i hi
  obtain ⟨b1, b2⟩ := stA_b hD hw hi
  have hs := (hD.2.1 i hi).2.2.2.2.1
  have a1 := hA.1
  have a2 := hA.2.1
  have a3 := hA.2.2.1
  have hvn : ¬ lN (aftD D i).2 = 0 := fun y => by
    have := (lN_inj (a := (aftD D i).2) (b := 0) (by omega) (by decide)).mp y
    omega
  have ediv : (lN ((aftD D i).1 + (aftD D i).2) - lN 1) / lN (aftD D i).2 = lN (up1 (aftD D i)) := by
    rw [lN_sub (by omega), pk_lDiv (by omega) a2 (by omega)]
    rfl
  rw [em_X12_stockAfter]
  simp (disch := omega) only [K_X12_stockAfter, lk_X12_stockAfter, XI, Nat.reduceAdd, Nat.reduceEqDiff, not_false_eq_true, nI_T1, nI_T0, true_and, and_true, WC, WV, WU, s_X12_at, nI_addS, nI_cl, rs_in_t, h6, nI_long, h81, m1, m2, hvn, not_false_eq_true, true_and, lN_add, ediv]
  have emx : (if lN ((D.ig i).stk + aG D w i) - lN (up1 (aftD D i)) < lN 0 then lN 0 else lN ((D.ig i).stk + aG D w i) - lN (up1 (aftD D i))) = lN (stA D w i) := by
    have hlt := lS_lt (x := (D.ig i).stk + aG D w i) (y := up1 (aftD D i)) (by omega) (by omega)
    rw [lg_cmp_lt] at hlt
    unfold stA
    by_cases h : (D.ig i).stk + aG D w i < up1 (aftD D i)
    · rw [if_pos (hlt.mpr h), show (D.ig i).stk + aG D w i - up1 (aftD D i) = 0 by omega]
    · rw [if_neg (fun z => h (hlt.mp z)), lN_sub (by omega)]
  rw [emx]
end
