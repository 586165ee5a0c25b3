/-! the fewest of a size so that the rest can be divided by another -/
def fwV (left zt zb inv : Nat) : Option Nat := if zt = 0 then (if left % zb = 0 then some 0 else none) else if left % Nat.gcd zt zb = 0 then (if (if zb / Nat.gcd zt zb = 1 then 0 else left / Nat.gcd zt zb % (zb / Nat.gcd zt zb) * inv % (zb / Nat.gcd zt zb)) * zt ≤ left then some (if zb / Nat.gcd zt zb = 1 then 0 else left / Nat.gcd zt zb % (zb / Nat.gcd zt zb) * inv % (zb / Nat.gcd zt zb)) else none) else none
theorem fw_core {l t b inv few : Nat} (hb : 1 ≤ b) (hf : few = if b = 1 then 0 else l % b * inv % b) (hi : b = 1 ∨ inv * (t % b) % b = 1) : (∀ f, f * t ≤ l → b ∣ l - f * t → few ≤ f) ∧ (few * t ≤ l → b ∣ l - few * t) := by
  by_cases e : b = 1
  · rw [if_pos e] at hf
    subst e
    exact ⟨fun f _ _ => by omega, fun _ => Nat.one_dvd _⟩
  · rw [if_neg e] at hf
    have hi : inv * (t % b) % b = 1 := by
      rcases hi with q | q
      · exact absurd q e
      · exact q
    have hit : t * inv % b = 1 := by
      rw [Nat.mul_comm]
      rw [Nat.mul_mod, Nat.mod_mod, ← Nat.mul_mod] at hi
      exact hi
    constructor
    · intro f h1 ⟨q, h2⟩
      have hl : l = f * t + b * q := by omega
      have : few = f % b := by
        rw [hf, hl, Nat.add_mul_mod_self_left, Nat.mul_mod, Nat.mod_mod, ← Nat.mul_mod, Nat.mul_assoc, Nat.mul_mod, hit, Nat.mul_one, Nat.mod_mod]
      rw [this]
      exact Nat.mod_le f b
    · intro h1
      have e1 : few * t % b = l % b := by
        rw [hf, Nat.mul_mod, Nat.mod_mod, ← Nat.mul_mod, Nat.mul_assoc, Nat.mul_comm inv, Nat.mul_mod, hit, Nat.mul_one, Nat.mod_mod, Nat.mod_mod]
      exact Nat.dvd_of_mod_eq_zero (Nat.sub_mod_eq_zero_of_mod_eq e1.symm)
theorem fw_ok {left zt zb inv : Nat} (hzb : 1 ≤ zb) (hi : zt = 0 ∨ zb / Nat.gcd zt zb = 1 ∨ inv * (zt / Nat.gcd zt zb % (zb / Nat.gcd zt zb)) % (zb / Nat.gcd zt zb) = 1) : isFw left zt zb (fwV left zt zb inv) := by
  unfold fwV
  by_cases h0 : zt = 0
  · rw [if_pos h0]
    subst h0
    by_cases h1 : left % zb = 0
    · rw [if_pos h1]
      exact ⟨⟨by rw [Nat.mul_zero]; exact Nat.zero_le _, by rw [Nat.mul_zero]; exact Nat.dvd_of_mod_eq_zero h1⟩, fun _ _ => Nat.zero_le _⟩
    · rw [if_neg h1]
      intro f ⟨_, h2⟩
      rw [Nat.mul_zero] at h2
      exact h1 (Nat.mod_eq_zero_of_dvd h2)
  · rw [if_neg h0]
    have hi2 := hi.resolve_left h0
    clear hi
    have hg : 1 ≤ Nat.gcd zt zb := Nat.gcd_pos_of_pos_right zt hzb
    obtain ⟨t, ht⟩ := Nat.gcd_dvd_left zt zb
    obtain ⟨b, hb⟩ := Nat.gcd_dvd_right zt zb
    have hgz := Nat.gcd_dvd_right zt zb
    have hgt := Nat.gcd_dvd_left zt zb
    have hbd : zb / Nat.gcd zt zb = b := Nat.div_eq_of_eq_mul_right hg hb
    have htd : zt / Nat.gcd zt zb = t := Nat.div_eq_of_eq_mul_right hg ht
    rw [hbd, htd] at hi2
    rw [hbd]
    generalize Nat.gcd zt zb = g at *
    have hb1 : 1 ≤ b := by
      rcases Nat.eq_zero_or_pos b with q | q
      · rw [q, Nat.mul_zero] at hb; omega
      · exact q
    by_cases h1 : left % g = 0
    · rw [if_pos h1]
      obtain ⟨l, hl⟩ := Nat.dvd_of_mod_eq_zero h1
      have hld : left / g = l := Nat.div_eq_of_eq_mul_right hg hl
      rw [hld]
      generalize hfew : (if b = 1 then 0 else l % b * inv % b) = few
      obtain ⟨c1, c2⟩ := fw_core (l := l) hb1 hfew.symm hi2
      have tr : ∀ f, (f * zt ≤ left ↔ f * t ≤ l) ∧ (f * t ≤ l → (zb ∣ left - f * zt ↔ b ∣ l - f * t)) := fun f => by
        have e1 : f * zt = g * (f * t) := by rw [ht, Nat.mul_left_comm]
        refine ⟨?_, fun hle => ?_⟩
        · rw [e1, hl]
          exact ⟨fun z => Nat.le_of_mul_le_mul_left z hg, fun z => Nat.mul_le_mul_left g z⟩
        · rw [e1, hl, ← Nat.mul_sub, hb]
          exact ⟨fun z => Nat.dvd_of_mul_dvd_mul_left hg z, fun z => Nat.mul_dvd_mul_left g z⟩
      by_cases h2 : few * zt ≤ left
      · rw [if_pos h2]
        have h3 := (tr few).1.mp h2
        exact ⟨⟨h2, ((tr few).2 h3).mpr (c2 h3)⟩, fun f ⟨g1, g2⟩ => c1 f ((tr f).1.mp g1) (((tr f).2 ((tr f).1.mp g1)).mp g2)⟩
      · rw [if_neg h2]
        intro f ⟨g1, g2⟩
        have := c1 f ((tr f).1.mp g1) (((tr f).2 ((tr f).1.mp g1)).mp g2)
        have := Nat.mul_le_mul_right zt this
        omega
    · rw [if_neg h1]
      intro f ⟨g1, g2⟩
      apply h1
      have d1 : g ∣ f * zt := Nat.dvd_trans hgt (Nat.dvd_mul_left zt f)
      have d2 : g ∣ left - f * zt := Nat.dvd_trans hgz g2
      have := Nat.dvd_add d2 d1
      rw [Nat.sub_add_cancel g1] at this
      exact Nat.mod_eq_zero_of_dvd this
/-- there is an inverse -/
theorem inv_ex {t b : Nat} (hb : 1 < b) (hc : Nat.gcd b t = 1) : ∃ j, j < b ∧ j * (t % b) % b = 1 := by
  obtain ⟨j, hj⟩ := bezN (show 1 ≤ b by omega) t
  rw [hc, Nat.mod_eq_of_lt hb] at hj
  refine ⟨j % b, Nat.mod_lt _ (by omega), ?_⟩
  rw [← Nat.mul_mod]
  exact hj
theorem cop_d {zt zb : Nat} (hzb : 1 ≤ zb) : Nat.gcd (zb / Nat.gcd zt zb) (zt / Nat.gcd zt zb) = 1 := by
  have hg : 0 < Nat.gcd zt zb := Nat.gcd_pos_of_pos_right zt hzb
  have := Nat.coprime_div_gcd_div_gcd hg
  rw [Nat.gcd_comm]
  exact this
