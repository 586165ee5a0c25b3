/-! the least sums of each remainder: what one pack more does -/
theorem bez : ∀ a b : Nat, ∃ x y : Int, x * (a : Int) + y * (b : Int) = (Nat.gcd a b : Int) := by
  intro a b
  induction a, b using Nat.gcd.induction with
  | H0 n => exact ⟨0, 1, by rw [Nat.gcd_zero_left]; omega⟩
  | H1 m n hm ih =>
    obtain ⟨x, y, h⟩ := ih
    refine ⟨y - x * (n / m : Nat), x, ?_⟩
    rw [Nat.gcd_rec m n, ← h]
    have e := Nat.div_add_mod n m
    have e2 : ((n % m : Nat) : Int) = (n : Int) - (m : Int) * ((n / m : Nat) : Int) := by
      have := congrArg (fun z : Nat => (z : Int)) e
      simp only [Int.natCast_add, Int.natCast_mul] at this
      omega
    rw [e2, Int.sub_mul, Int.mul_sub, Int.mul_assoc x, Int.mul_comm (m : Int)]
    omega
/-- some multiple of a number leaves the greatest common divisor -/
theorem bezN {z : Nat} (hz : 1 ≤ z) (w : Nat) : ∃ j : Nat, (j * w) % z = Nat.gcd z w % z := by
  obtain ⟨x, y, h⟩ := bez z w
  refine ⟨(y % (z : Int)).toNat, ?_⟩
  have h1 : 0 ≤ y % (z : Int) := Int.emod_nonneg _ (by omega)
  have h2 : (((y % (z : Int)).toNat * w % z : Nat) : Int) = ((Nat.gcd z w % z : Nat) : Int) := by
    rw [Int.natCast_emod, Int.natCast_mul, Int.toNat_of_nonneg h1, Int.natCast_emod, ← h, Int.mul_emod, Int.emod_emod, ← Int.mul_emod, Int.add_comm, Int.mul_comm x, Int.add_mul_emod_self_left]
  exact Int.ofNat.inj h2
theorem mul_ge {m z w : Nat} (h : m * Nat.gcd z w = z) : z ∣ m * w := by
  obtain ⟨q, hq⟩ := Nat.gcd_dvd_right z w
  exact ⟨q, by rw [← h, Nat.mul_assoc, ← hq]⟩
/-- each remainder lies on a ring -/
theorem ring_cov {z : Nat} (hz : 1 ≤ z) (w : Nat) {r : Nat} (hr : r < z) : ∃ j, j < z / Nat.gcd z w ∧ (r % Nat.gcd z w + j * w) % z = r := by
  have hg : 1 ≤ Nat.gcd z w := Nat.gcd_pos_of_pos_left w hz
  have hm : z / Nat.gcd z w * Nat.gcd z w = z := Nat.div_mul_cancel (Nat.gcd_dvd_left z w)
  have hm1 : 1 ≤ z / Nat.gcd z w := Nat.div_pos (Nat.le_of_dvd hz (Nat.gcd_dvd_left z w)) hg
  obtain ⟨j, hj⟩ := bezN hz w
  have hd := mul_ge hm
  generalize Nat.gcd z w = g at *
  generalize z / g = m at *
  refine ⟨(j * (r / g)) % m, Nat.mod_lt _ hm1, ?_⟩
  have e1 : (j * (r / g) % m * w) % z = (j * (r / g) * w) % z := by
    have e := Nat.div_add_mod (j * (r / g)) m
    have e2 : j * (r / g) * w = j * (r / g) % m * w + j * (r / g) / m * (m * w) := by
      calc j * (r / g) * w = (m * (j * (r / g) / m) + j * (r / g) % m) * w := by rw [e]
        _ = _ := by rw [Nat.add_mul, Nat.add_comm, Nat.mul_comm m, Nat.mul_assoc]
    obtain ⟨t, ht⟩ := hd
    rw [e2, ht, Nat.mul_left_comm, Nat.add_mul_mod_self_left]
  have e3 : (j * (r / g) * w) % z = (g * (r / g)) % z := by
    rw [show j * (r / g) * w = j * w * (r / g) by rw [Nat.mul_assoc, Nat.mul_comm (r / g), ← Nat.mul_assoc], Nat.mul_mod, hj, ← Nat.mul_mod]
  have e4 := Nat.div_add_mod r g
  rw [Nat.add_mod, e1, e3, ← Nat.add_mod, Nat.add_comm, e4, Nat.mod_eq_of_lt hr]
def upV (V : Nat → Option Nat) (i v : Nat) : Nat → Option Nat := fun j => if j = i then some v else V j
/-- one step of the ring -/
def rlx (z w : Nat) (V : Nat → Option Nat) (r : Nat) : Nat → Option Nat := match V r with
  | none => V
  | some v => match V ((r + w) % z) with
    | none => upV V ((r + w) % z) (v + w)
    | some u => if v + w < u then upV V ((r + w) % z) (v + w) else V
def sat (z w : Nat) (V : Nat → Option Nat) (r : Nat) : Prop := ∀ v, V r = some v → ∃ u, V ((r + w) % z) = some u ∧ u ≤ v + w
theorem rlx_c (z w : Nat) (V : Nat → Option Nat) (r : Nat) : (sat z w V r ∧ rlx z w V r = V) ∨ ∃ v, V r = some v ∧ (∀ u, V ((r + w) % z) = some u → v + w < u) ∧ rlx z w V r = upV V ((r + w) % z) (v + w) := by
  unfold rlx
  cases hv : V r with
  | none => exact Or.inl ⟨fun v h => (by rw [hv] at h; cases h), rfl⟩
  | some v =>
    dsimp only
    cases hu : V ((r + w) % z) with
    | none => exact Or.inr ⟨v, rfl, fun u h => (by cases h), rfl⟩
    | some u =>
      dsimp only
      by_cases e : v + w < u
      · rw [if_pos e]
        exact Or.inr ⟨v, rfl, fun u2 h => (by cases h; exact e), rfl⟩
      · rw [if_neg e]
        exact Or.inl ⟨fun v2 h => ⟨u, hu, by rw [hv] at h; cases h; omega⟩, rfl⟩
theorem upV_s {z w : Nat} {V : Nat → Option Nat} {i v : Nat} (hl : ∀ u, V i = some u → v < u) {r : Nat} (hr : ¬ r = i) (h : sat z w V r) : sat z w (upV V i v) r := by
  intro x hx
  have hx : V r = some x := by
    have : upV V i v r = V r := if_neg hr
    rw [← this]; exact hx
  obtain ⟨u, h1, h2⟩ := h x hx
  by_cases e : (r + w) % z = i
  · refine ⟨v, by unfold upV; rw [if_pos e], ?_⟩
    rw [e] at h1
    have := hl u h1
    omega
  · exact ⟨u, by unfold upV; rw [if_neg e]; exact h1, h2⟩
def rW (z w ring : Nat) (V : Nat → Option Nat) : Nat → Nat → Option Nat
  | 0 => V
  | n + 1 => rlx z w (rW z w ring V n) ((ring + n * w) % z)
theorem rW_s (z w ring : Nat) (V : Nat → Option Nat) (n : Nat) : rW z w ring V (n + 1) = rlx z w (rW z w ring V n) ((ring + n * w) % z) := rfl
theorem pos_s (z w ring n : Nat) : ((ring + n * w) % z + w) % z = (ring + (n + 1) * w) % z := by
  rw [Nat.mod_add_mod, Nat.succ_mul, Nat.add_assoc]
theorem pos_m {z w m : Nat} (hd : z ∣ m * w) (ring n : Nat) : (ring + (m + n) * w) % z = (ring + n * w) % z := by
  obtain ⟨t, ht⟩ := hd
  rw [Nat.add_mul, ht, Nat.add_comm (z * t), ← Nat.add_assoc, Nat.add_mul_mod_self_left]
theorem rW_1 {z w : Nat} (hw : 1 ≤ w) (ring : Nat) (V : Nat → Option Nat) : ∀ n i, i < n → sat z w (rW z w ring V n) ((ring + i * w) % z) ∨ (ring + i * w) % z = (ring + n * w) % z ∨ (ring + i * w) % z = (ring + 0 * w) % z
  | 0, i, h => absurd h (Nat.not_lt_zero i)
  | n + 1, i, h => by
    rw [rW_s]
    have ih := rW_1 (z := z) hw ring V n
    generalize rW z w ring V n = U at ih
    rcases rlx_c z w U ((ring + n * w) % z) with ⟨h1, h2⟩ | ⟨v, h1, h2, h3⟩
    · rw [h2]
      by_cases e : i = n
      · rw [e]; exact Or.inl h1
      · rcases ih i (by omega) with q | q | q
        · exact Or.inl q
        · exact Or.inl (by rw [q]; exact h1)
        · exact Or.inr (Or.inr q)
    · rw [h3]
      rw [pos_s] at h2 ⊢
      by_cases e : (ring + i * w) % z = (ring + (n + 1) * w) % z
      · exact Or.inr (Or.inl e)
      · by_cases en : (ring + i * w) % z = (ring + n * w) % z
        · refine Or.inl ?_
          rw [en] at e ⊢
          intro x hx
          have hx : U ((ring + n * w) % z) = some x := by
            have : upV U ((ring + (n + 1) * w) % z) (v + w) ((ring + n * w) % z) = U ((ring + n * w) % z) := if_neg e
            rw [← this]; exact hx
          rw [h1] at hx
          cases hx
          rw [pos_s]
          exact ⟨v + w, by unfold upV; rw [if_pos rfl], Nat.le_refl _⟩
        · have hin : i < n := by
            rcases Nat.lt_or_ge i n with q | q
            · exact q
            · have : i = n := by omega
              exact absurd (by rw [this]) en
          rcases ih i hin with q | q | q
          · exact Or.inl (upV_s h2 e q)
          · exact absurd q en
          · exact Or.inr (Or.inr q)
theorem rW_2 {z w : Nat} (hw : 1 ≤ w) (ring : Nat) (V : Nat → Option Nat) {m : Nat} (hm : 1 ≤ m) (hd : z ∣ m * w) : ∀ j, j ≤ m → (∀ i, i < m → sat z w (rW z w ring V (m + j)) ((ring + i * w) % z) ∨ (ring + i * w) % z = (ring + j * w) % z) ∧ (sat z w (rW z w ring V (m + j)) ((ring + j * w) % z) ∨ ∃ u, rW z w ring V (m + j) ((ring + 0 * w) % z) = some u ∧ rW z w ring V (m + j) ((ring + j * w) % z) = some (u + j * w))
  | 0, _ => by
    have h := rW_1 hw ring V (z := z) m
    rw [Nat.add_zero]
    have e := pos_m hd ring 0
    rw [Nat.add_zero] at e
    refine ⟨fun i hi => ?_, ?_⟩
    · rcases h i hi with q | q | q
      · exact Or.inl q
      · exact Or.inr (by rw [q, e])
      · exact Or.inr q
    · cases hu : rW z w ring V m ((ring + 0 * w) % z) with
      | none => exact Or.inl (fun v hv => by rw [hu] at hv; cases hv)
      | some u => exact Or.inr ⟨u, rfl, by rw [Nat.zero_mul, Nat.add_zero]⟩
  | j + 1, hj => by
    obtain ⟨h1, h2⟩ := rW_2 hw ring V hm hd j (by omega)
    have all : sat z w (rW z w ring V (m + j)) ((ring + j * w) % z) → ∀ i, i ≤ m → sat z w (rW z w ring V (m + j)) ((ring + i * w) % z) := fun hs i hi => by
      have lt : ∀ i, i < m → sat z w (rW z w ring V (m + j)) ((ring + i * w) % z) := fun i hi => by
        rcases h1 i hi with q | q
        · exact q
        · rw [q]; exact hs
      by_cases e : i = m
      · have e2 := pos_m hd ring 0
        rw [Nat.add_zero] at e2
        rw [e, e2]
        exact lt 0 hm
      · exact lt i (by omega)
    rw [← Nat.add_assoc, rW_s, pos_m hd]
    generalize rW z w ring V (m + j) = U at h1 h2 all
    rcases rlx_c z w U ((ring + j * w) % z) with ⟨g1, g2⟩ | ⟨v, g1, g2, g3⟩
    · rw [g2]
      have := all g1
      exact ⟨fun i hi => Or.inl (this i (by omega)), Or.inl (this (j + 1) hj)⟩
    · have ns : ¬ sat z w U ((ring + j * w) % z) := fun hs => by
        obtain ⟨u, q1, q2⟩ := hs v g1
        have := g2 u q1
        omega
      rcases h2 with q | ⟨u, q1, q2⟩
      · exact absurd q ns
      · rw [g1] at q2
        cases q2
        rw [g3]
        rw [pos_s] at g2 ⊢
        have ne0 : ¬ (ring + 0 * w) % z = (ring + (j + 1) * w) % z := fun e => by
          have := g2 u (by rw [← e]; exact q1)
          omega
        have nej : ¬ (ring + j * w) % z = (ring + (j + 1) * w) % z := fun e => by
          have := g2 (u + j * w) (by rw [← e]; exact g1)
          omega
        refine ⟨fun i hi => ?_, Or.inr ⟨u, ?_, ?_⟩⟩
        · by_cases e : (ring + i * w) % z = (ring + (j + 1) * w) % z
          · exact Or.inr e
          · refine Or.inl ?_
            rcases h1 i hi with q | q
            · exact upV_s g2 e q
            · rw [q]
              intro x hx
              have hx : U ((ring + j * w) % z) = some x := by
                have : upV U ((ring + (j + 1) * w) % z) (u + j * w + w) ((ring + j * w) % z) = U ((ring + j * w) % z) := if_neg nej
                rw [← this]; exact hx
              rw [g1] at hx
              cases hx
              rw [pos_s]
              exact ⟨u + j * w + w, by unfold upV; rw [if_pos rfl], Nat.le_refl _⟩
        · have : upV U ((ring + (j + 1) * w) % z) (u + j * w + w) ((ring + 0 * w) % z) = U ((ring + 0 * w) % z) := if_neg ne0
          rw [this]; exact q1
        · have : upV U ((ring + (j + 1) * w) % z) (u + j * w + w) ((ring + (j + 1) * w) % z) = some (u + j * w + w) := if_pos rfl
          rw [this, Nat.succ_mul, ← Nat.add_assoc]
/-- twice around: all steps of the ring are done -/
theorem rW_all {z w : Nat} (hw : 1 ≤ w) (ring : Nat) (V : Nat → Option Nat) {m : Nat} (hm : 1 ≤ m) (hd : z ∣ m * w) : ∀ i, i < m → sat z w (rW z w ring V (2 * m)) ((ring + i * w) % z) := by
  obtain ⟨h1, h2⟩ := rW_2 hw ring V hm hd m (Nat.le_refl m)
  rw [show m + m = 2 * m by omega] at h1 h2
  have e := pos_m hd ring 0
  rw [Nat.add_zero] at e
  rw [e] at h1 h2
  have h0 : sat z w (rW z w ring V (2 * m)) ((ring + 0 * w) % z) := by
    rcases h2 with q | ⟨u, q1, q2⟩
    · exact q
    · rw [q1] at q2
      have : 1 ≤ m * w := Nat.mul_pos hm hw
      have := Option.some.inj q2
      omega
  intro i hi
  rcases h1 i hi with q | q
  · exact q
  · rw [q]; exact h0
