/-! whole numbers; the rows wb_, pf_ are pasted from kit/laws/BITS.to-paste -/
theorem wb_tb (n : Nat) : (lN n).toBitVec = BitVec.ofNat 64 n := rfl
theorem wb_inj {a b : Int64} (h : a.toBitVec = b.toBitVec) : a = b := Int64.toBitVec_inj.mp h
theorem wb_tn {n : Nat} (h : n < 2 ^ 64) : (lN n).toBitVec.toNat = n := by rw [wb_tb, BitVec.toNat_ofNat, Nat.mod_eq_of_lt h]
theorem wb_of (x : Int64) : ∃ n, n < 2 ^ 64 ∧ x = lN n := ⟨x.toBitVec.toNat, x.toBitVec.isLt, wb_inj (by rw [wb_tb]; simp)⟩
theorem wb_of32 (x : Int32) : ∃ n, n < 2 ^ 32 ∧ x = nI n := ⟨x.toBitVec.toNat, x.toBitVec.isLt, Int32.toBitVec_inj.mp (by show _ = BitVec.ofNat 32 _; simp)⟩
theorem wb_c : ∀ k, k < 64 → ((nI k).toInt64 &&& 63) = lN k := by decide +kernel
theorem wb_cu : ∀ k, k < 64 → ((nI k).toInt64.toUInt64 &&& Int64.toUInt64 63) = UInt64.ofNat k := by decide +kernel
theorem wb_sm : ∀ k, k < 64 → (BitVec.ofNat 64 k).smod 64 = BitVec.ofNat 64 k := by decide +kernel
theorem wb_pw {a b : Nat} (h : a ≤ b) : 2 ^ b = 2 ^ a * 2 ^ (b - a) := by rw [← Nat.pow_add]; congr 1; omega
theorem wb_lt2 {a b : Nat} (h : a < b) : 2 ^ a < 2 ^ b := Nat.pow_lt_pow_right (by decide) h
theorem wb_mod (n : Nat) : lN n = lN (n % 2 ^ 64) := wb_inj (by rw [wb_tb, wb_tb]; apply BitVec.eq_of_toNat_eq; rw [BitVec.toNat_ofNat, BitVec.toNat_ofNat, Nat.mod_mod])
theorem wb_shr {n k : Nat} (hn : n < 2 ^ 64) (hk : k < 64) : ((lN n).toUInt64 >>> ((nI k).toInt64.toUInt64 &&& Int64.toUInt64 63)).toInt64 = lN (n / 2 ^ k) := by
  rw [wb_cu k hk]
  apply wb_inj
  apply BitVec.eq_of_toNat_eq
  show ((lN n).toUInt64 >>> UInt64.ofNat k).toNat = (BitVec.ofNat 64 _).toNat
  have h1 : (UInt64.ofNat k).toNat = k := by
    show (BitVec.ofNat 64 k).toNat = k
    rw [BitVec.toNat_ofNat, Nat.mod_eq_of_lt (by omega)]
  have h2 : (lN n).toUInt64.toNat = n := wb_tn hn
  rw [UInt64.toNat_shiftRight, h1, h2, Nat.mod_eq_of_lt hk, Nat.shiftRight_eq_div_pow, BitVec.toNat_ofNat, Nat.mod_eq_of_lt (Nat.lt_of_le_of_lt (Nat.div_le_self _ _) hn)]
theorem wb_shl (n : Nat) {k : Nat} (hk : k < 64) : lN n <<< ((nI k).toInt64 &&& 63) = lN (n * 2 ^ k) := by
  rw [wb_c k hk]
  apply wb_inj
  rw [Int64.toBitVec_shiftLeft, wb_tb, wb_tb, wb_tb, wb_sm k hk]
  apply BitVec.eq_of_toNat_eq
  rw [BitVec.shiftLeft_eq', BitVec.toNat_shiftLeft, BitVec.toNat_ofNat, BitVec.toNat_ofNat, BitVec.toNat_ofNat, Nat.mod_eq_of_lt (show k < 2 ^ 64 by omega), Nat.shiftLeft_eq, Nat.mul_mod, Nat.mod_mod, ← Nat.mul_mod]
theorem wb_and {a b : Nat} (ha : a < 2 ^ 64) (hb : b < 2 ^ 64) : lN a &&& lN b = lN (a &&& b) := by
  apply wb_inj
  rw [Int64.toBitVec_and, wb_tb, wb_tb, wb_tb]
  apply BitVec.eq_of_toNat_eq
  rw [BitVec.toNat_and, BitVec.toNat_ofNat, BitVec.toNat_ofNat, BitVec.toNat_ofNat, Nat.mod_eq_of_lt ha, Nat.mod_eq_of_lt hb, Nat.mod_eq_of_lt (Nat.and_lt_two_pow _ hb)]
theorem wb_or {a b : Nat} (ha : a < 2 ^ 64) (hb : b < 2 ^ 64) : lN a ||| lN b = lN (a ||| b) := by
  apply wb_inj
  rw [Int64.toBitVec_or, wb_tb, wb_tb, wb_tb]
  apply BitVec.eq_of_toNat_eq
  rw [BitVec.toNat_or, BitVec.toNat_ofNat, BitVec.toNat_ofNat, BitVec.toNat_ofNat, Nat.mod_eq_of_lt ha, Nat.mod_eq_of_lt hb, Nat.mod_eq_of_lt (Nat.or_lt_two_pow ha hb)]
theorem wb_mask {n k : Nat} (hn : n < 2 ^ 64) (hk : k < 64) : lN n &&& lN (2 ^ k - 1) = lN (n % 2 ^ k) := by
  rw [wb_and hn (by have := wb_lt2 hk; omega), Nat.and_two_pow_sub_one_eq_mod]
theorem wb_a1 {n : Nat} (hn : n < 2 ^ 64) : lN n &&& 1 = lN (n % 2) := wb_mask (k := 1) hn (by decide)
theorem pf_lI {a : Nat} (h : a < 2 ^ 63) : (lN a).toInt = (a : Int) := lg_ofNat_toInt h
theorem pf_shr {a d : Nat} {D : Int64} (hD : (D.toBitVec.smod 64).toNat = d) (h : a < 2 ^ 62) : lN a >>> D = lN (a / 2 ^ d) := by
  have hd : a / 2 ^ d ≤ a := Nat.div_le_self _ _
  apply Int64.toInt_inj.mp
  have e : (lN a >>> D).toInt = (lN a).toInt >>> d := by
    rw [← hD]
    exact BitVec.toInt_sshiftRight ..
  rw [e, Int.shiftRight_eq_div_pow, pf_lI (by omega), pf_lI (by omega)]
  rfl
/-! fractions: in lowest terms, none if too great -/
def fr (n d : Nat) : Option (Nat × Nat) := if n / Nat.gcd n d ≤ 1000000000 ∧ d / Nat.gcd n d ≤ 1000000000 then some (n / Nat.gcd n d, d / Nat.gcd n d) else none
def isF (q : Nat × Nat) : Prop := q.1 ≤ 1000000000 ∧ 1 ≤ q.2 ∧ q.2 ≤ 1000000000 ∧ Nat.gcd q.1 q.2 = 1
theorem fr_isF {n d : Nat} {q : Nat × Nat} (hd : 1 ≤ d) (h : fr n d = some q) : isF q := by
  unfold fr at h
  split at h
  · rename_i hc
    cases h
    have hg : 0 < Nat.gcd n d := Nat.gcd_pos_of_pos_right n hd
    refine ⟨hc.1, ?_, hc.2, ?_⟩
    · exact Nat.div_pos (Nat.le_of_dvd hd (Nat.gcd_dvd_right n d)) hg
    · rw [Nat.gcd_div (Nat.gcd_dvd_left n d) (Nat.gcd_dvd_right n d), Nat.div_self hg]
  · cases h
theorem fr_mul {k n d : Nat} (hk : 1 ≤ k) : fr (k * n) (k * d) = fr n d := by
  unfold fr
  rw [Nat.gcd_mul_left, Nat.mul_div_mul_left _ _ hk, Nat.mul_div_mul_left _ _ hk]
theorem fr_self {q : Nat × Nat} (h : isF q) : fr q.1 q.2 = some q := by
  unfold fr
  rw [h.2.2.2, Nat.div_one, Nat.div_one, if_pos ⟨h.1, h.2.2.1⟩]
def fmul (a b : Nat × Nat) : Option (Nat × Nat) := fr (a.1 * b.1) (a.2 * b.2)
def fdiv (a b : Nat × Nat) : Option (Nat × Nat) := fr (a.1 * b.2) (a.2 * b.1)
def fadd (a b : Nat × Nat) : Option (Nat × Nat) := fr (a.1 * b.2 + b.1 * a.2) (a.2 * b.2)
/-- a fraction as one long -/
def pkF (q : Nat × Nat) : Int64 := lN (q.1 * 4294967296 + q.2)
def pkO (o : Option (Nat × Nat)) : Int64 := match o with
  | some q => pkF q
  | none => -1
/-! Euclid's way, in steps -/
def fb : Nat → Nat
  | 0 => 0
  | 1 => 1
  | n + 2 => fb n + fb (n + 1)
def eu : Nat → Nat → Nat → Nat × Nat
  | 0, a, b => (a, b)
  | n + 1, a, b => if b = 0 then (a, 0) else eu n b (a % b)
theorem eu_s {n a b : Nat} (hb : ¬ b = 0) : eu (n + 1) a b = eu n b (a % b) := if_neg hb
theorem eu_z (n a : Nat) : eu n a 0 = (a, 0) := by cases n <;> rfl
theorem eu_gcd : ∀ (n a b : Nat), (eu n a b).2 = 0 → (eu n a b).1 = Nat.gcd a b
  | 0, a, b, h => by
    have hb : b = 0 := h
    subst hb
    exact (Nat.gcd_zero_right a).symm
  | n + 1, a, b, h => by
    by_cases hb : b = 0
    · subst hb
      rw [eu_z]
      exact (Nat.gcd_zero_right a).symm
    · rw [eu_s hb] at h ⊢
      rw [eu_gcd n b (a % b) h, Nat.gcd_comm, ← Nat.gcd_rec, Nat.gcd_comm]
theorem eu_more : ∀ (n a b : Nat), (eu n a b).2 = 0 → (eu (n + 1) a b).2 = 0
  | 0, a, b, h => by
    have hb : b = 0 := h
    subst hb
    rw [eu_z]
  | n + 1, a, b, h => by
    by_cases hb : b = 0
    · subst hb
      rw [eu_z]
    · rw [eu_s hb] at h ⊢
      exact eu_more n b (a % b) h
theorem eu_le {n m a b : Nat} (h : (eu n a b).2 = 0) (hm : n ≤ m) : (eu m a b).2 = 0 := by
  induction m with
  | zero => rwa [Nat.le_zero.mp hm] at h
  | succ m ih =>
    rcases Nat.lt_or_ge n (m + 1) with q | q
    · exact eu_more m a b (ih (Nat.le_of_lt_succ q))
    · rwa [Nat.le_antisymm hm q] at h
theorem eu_fb : ∀ (n a b : Nat), b < a → b < fb (n + 1) → (eu n a b).2 = 0
  | 0, a, b, _, h => by
    have : b = 0 := by simpa [fb] using h
    subst this
    rfl
  | 1, a, b, _, h => by
    have : b = 0 := by simpa [fb] using h
    subst this
    rfl
  | n + 2, a, b, hab, h => by
    by_cases hb : b = 0
    · subst hb; rw [eu_z]
    · rw [eu_s hb]
      have h1 : a % b < b := Nat.mod_lt _ (Nat.pos_of_ne_zero hb)
      by_cases hc : a % b < fb (n + 2)
      · exact eu_fb (n + 1) b (a % b) h1 hc
      · by_cases hz : a % b = 0
        · rw [hz, eu_z]
        · rw [eu_s hz]
          have h2 : b % (a % b) < a % b := Nat.mod_lt _ (Nat.pos_of_ne_zero hz)
          refine eu_fb n (a % b) (b % (a % b)) h2 ?_
          have h3 : b % (a % b) ≤ b - a % b := by
            rw [Nat.mod_eq_sub_mod (Nat.le_of_lt h1)]
            exact Nat.mod_le _ _
          have h4 : fb (n + 2 + 1) = fb (n + 1) + fb (n + 2) := rfl
          omega
theorem fb_88 : 1000000000000000000 < fb 88 := by decide +kernel
/-- a hundred steps are enough -/
theorem eu_100 {a b : Nat} (hb : b ≤ 1000000000000000000) : (eu 100 a b).2 = 0 := by
  rcases Nat.lt_or_ge b a with h | h
  · exact eu_le (eu_fb 87 a b h (Nat.lt_of_le_of_lt (by omega) fb_88)) (by decide)
  · by_cases hz : b = 0
    · subst hz; rw [eu_z]
    · rw [show (100 : Nat) = 99 + 1 from rfl, eu_s hz]
      rcases Nat.lt_or_ge a b with h2 | h2
      · rw [Nat.mod_eq_of_lt h2]
        exact eu_le (eu_fb 87 b a h2 (Nat.lt_of_le_of_lt (by omega) fb_88)) (by decide)
      · have : a = b := Nat.le_antisymm h h2
        subst this
        rw [Nat.mod_self, eu_z]
/-! the long's two halves -/
theorem pk_up {q : Nat × Nat} (h : isF q) : (pkF q >>> ((nI 32).toInt64 &&& 63)).toInt32 = nI q.1 := by
  unfold pkF
  rw [wb_c 32 (by decide)]
  have h1 := h.1
  have h2 := h.2.2.1
  rw [show lN 32 = (32 : Int64) from rfl, pf_shr (d := 32) (by decide) (by omega), lN_i]
  congr 1
  omega
theorem pk_down {q : Nat × Nat} (h : isF q) : (pkF q).toInt32 = nI q.2 := by
  unfold pkF
  rw [lN_i]
  unfold nI
  apply Int32.toBitVec_inj.mp
  show BitVec.ofNat 32 _ = BitVec.ofNat 32 _
  apply BitVec.eq_of_toNat_eq
  rw [BitVec.toNat_ofNat, BitVec.toNat_ofNat]
  have h2 := h.2.2.1
  omega
theorem pk_put {u v : Nat} : (lN u <<< ((nI 32).toInt64 &&& 63)) + lN v = pkF (u, v) := by
  rw [wb_shl u (by decide), lN_add]
  rfl
theorem pkF_nn {q : Nat × Nat} (h : isF q) : ¬ pkF q < 0 := by
  unfold pkF
  have h1 := h.1
  have h2 := h.2.2.1
  rw [show (0 : Int64) = lN 0 from rfl, pk_lLT (by omega) (by omega)]
  omega
theorem pkF_inj {q r : Nat × Nat} (hq : isF q) (hr : isF r) (h : pkF q = pkF r) : q = r := by
  unfold pkF at h
  have a1 := hq.1
  have a2 := hq.2.2.1
  have b1 := hr.1
  have b2 := hr.2.2.1
  rw [pk_lEQ (by omega) (by omega)] at h
  apply Prod.ext <;> omega
