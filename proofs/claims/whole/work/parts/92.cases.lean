/-! which pack goes around, which is the fewest, which divides -/
def Cs (pk : List (Nat × Nat)) (b : Nat) (o t : Option Nat) : Prop := (pk.length = 1 ∧ b = 0 ∧ o = none ∧ t = none) ∨ (pk.length = 2 ∧ b = 0 ∧ o = some 1 ∧ t = none) ∨ (pk.length = 2 ∧ b = 1 ∧ o = some 0 ∧ t = none) ∨ (pk.length = 3 ∧ b = 0 ∧ o = some 1 ∧ t = some 2) ∨ (pk.length = 3 ∧ b = 1 ∧ o = some 0 ∧ t = some 2) ∨ (pk.length = 3 ∧ b = 2 ∧ o = some 0 ∧ t = some 1)
def iO (o : Option Nat) : Int32 := match o with
  | none => -1
  | some k => nI k
def zO (pk : List (Nat × Nat)) (o : Option Nat) : Nat := match o with
  | none => 0
  | some k => zP pk k
def wO (pk : List (Nat × Nat)) (o : Option Nat) : Nat := match o with
  | none => 0
  | some k => wP pk k
def eO2 (pk : List (Nat × Nat)) (b : Nat) (o : Option Nat) : Nat := match o with
  | none => 1
  | some _ => zP pk b
def trC (b : Nat) (o t : Option Nat) (n f v k : Nat) : Nat := if o = some k then n else if t = some k then f else if k = b then v else 0
theorem Cs_ex {pk : List (Nat × Nat)} (h : pkOk pk) {b : Nat} (hb : b < pk.length) : ∃ o t, Cs pk b o t := by
  have h1 := h.1
  have h3 := h.2.1
  have e : (pk.length = 1 ∧ b = 0) ∨ (pk.length = 2 ∧ b = 0) ∨ (pk.length = 2 ∧ b = 1) ∨ (pk.length = 3 ∧ b = 0) ∨ (pk.length = 3 ∧ b = 1) ∨ (pk.length = 3 ∧ b = 2) := by omega
  rcases e with ⟨e1, e2⟩ | ⟨e1, e2⟩ | ⟨e1, e2⟩ | ⟨e1, e2⟩ | ⟨e1, e2⟩ | ⟨e1, e2⟩
  · exact ⟨none, none, Or.inl ⟨e1, e2, rfl, rfl⟩⟩
  · exact ⟨some 1, none, Or.inr (Or.inl ⟨e1, e2, rfl, rfl⟩)⟩
  · exact ⟨some 0, none, Or.inr (Or.inr (Or.inl ⟨e1, e2, rfl, rfl⟩))⟩
  · exact ⟨some 1, some 2, Or.inr (Or.inr (Or.inr (Or.inl ⟨e1, e2, rfl, rfl⟩)))⟩
  · exact ⟨some 0, some 2, Or.inr (Or.inr (Or.inr (Or.inr (Or.inl ⟨e1, e2, rfl, rfl⟩))))⟩
  · exact ⟨some 0, some 1, Or.inr (Or.inr (Or.inr (Or.inr (Or.inr ⟨e1, e2, rfl, rfl⟩))))⟩
theorem Cs_b {pk : List (Nat × Nat)} {b : Nat} {o t : Option Nat} (h : Cs pk b o t) : b < pk.length ∧ (∀ k, o = some k → k < pk.length) ∧ (∀ k, t = some k → k < pk.length) := by
  rcases h with ⟨e1, e2, e3, e4⟩ | ⟨e1, e2, e3, e4⟩ | ⟨e1, e2, e3, e4⟩ | ⟨e1, e2, e3, e4⟩ | ⟨e1, e2, e3, e4⟩ | ⟨e1, e2, e3, e4⟩ <;> subst e3 <;> subst e4 <;> exact ⟨by omega, fun k z => (by cases z <;> omega), fun k z => (by cases z <;> omega)⟩
theorem Cs_dn {pk : List (Nat × Nat)} {b : Nat} {o t : Option Nat} (h : Cs pk b o t) {B n f v : Nat} (hn : o = none → n = 0) (hf : t = none → f = 0) (he : n * zO pk o + f * zO pk t + v * zP pk b = B) : Rch pk B (trC b o t n f v 0) (trC b o t n f v 1) (trC b o t n f v 2) ∧ wgt pk (trC b o t n f v 0) (trC b o t n f v 1) (trC b o t n f v 2) = n * wO pk o + f * wO pk t + v * wP pk b := by
  rcases h with ⟨e1, e2, e3, e4⟩ | ⟨e1, e2, e3, e4⟩ | ⟨e1, e2, e3, e4⟩ | ⟨e1, e2, e3, e4⟩ | ⟨e1, e2, e3, e4⟩ | ⟨e1, e2, e3, e4⟩
  · subst e2 e3 e4
    have he : n * 0 + f * 0 + v * zP pk 0 = B := he
    show Rch pk B v 0 0 ∧ wgt pk v 0 0 = n * 0 + f * 0 + v * wP pk 0
    have hn := hn rfl
    have hf := hf rfl
    subst hn hf
    unfold Rch wgt
    refine ⟨⟨?_, fun _ => ?_, fun _ => ?_⟩, ?_⟩ <;> omega
  · subst e2 e3 e4
    have he : n * (zP pk 1) + f * 0 + v * zP pk 0 = B := he
    show Rch pk B v n 0 ∧ wgt pk v n 0 = n * (wP pk 1) + f * 0 + v * wP pk 0
    have hf := hf rfl
    subst hf
    unfold Rch wgt
    refine ⟨⟨?_, fun _ => ?_, fun _ => ?_⟩, ?_⟩ <;> omega
  · subst e2 e3 e4
    have he : n * (zP pk 0) + f * 0 + v * zP pk 1 = B := he
    show Rch pk B n v 0 ∧ wgt pk n v 0 = n * (wP pk 0) + f * 0 + v * wP pk 1
    have hf := hf rfl
    subst hf
    unfold Rch wgt
    refine ⟨⟨?_, fun _ => ?_, fun _ => ?_⟩, ?_⟩ <;> omega
  · subst e2 e3 e4
    have he : n * (zP pk 1) + f * (zP pk 2) + v * zP pk 0 = B := he
    show Rch pk B v n f ∧ wgt pk v n f = n * (wP pk 1) + f * (wP pk 2) + v * wP pk 0
    unfold Rch wgt
    refine ⟨⟨?_, fun _ => ?_, fun _ => ?_⟩, ?_⟩ <;> omega
  · subst e2 e3 e4
    have he : n * (zP pk 0) + f * (zP pk 2) + v * zP pk 1 = B := he
    show Rch pk B n v f ∧ wgt pk n v f = n * (wP pk 0) + f * (wP pk 2) + v * wP pk 1
    unfold Rch wgt
    refine ⟨⟨?_, fun _ => ?_, fun _ => ?_⟩, ?_⟩ <;> omega
  · subst e2 e3 e4
    have he : n * (zP pk 0) + f * (zP pk 1) + v * zP pk 2 = B := he
    show Rch pk B n f v ∧ wgt pk n f v = n * (wP pk 0) + f * (wP pk 1) + v * wP pk 2
    unfold Rch wgt
    refine ⟨⟨?_, fun _ => ?_, fun _ => ?_⟩, ?_⟩ <;> omega
theorem Cs_up {pk : List (Nat × Nat)} {b : Nat} {o t : Option Nat} (h : Cs pk b o t) {B x y z : Nat} (hr : Rch pk B x y z) : ∃ n f v, (o = none → n = 0) ∧ n * zO pk o + f * zO pk t + v * zP pk b = B ∧ wgt pk x y z = n * wO pk o + f * wO pk t + v * wP pk b := by
  obtain ⟨h1, h2, h3⟩ := hr
  unfold wgt
  rcases h with ⟨e1, e2, e3, e4⟩ | ⟨e1, e2, e3, e4⟩ | ⟨e1, e2, e3, e4⟩ | ⟨e1, e2, e3, e4⟩ | ⟨e1, e2, e3, e4⟩ | ⟨e1, e2, e3, e4⟩
  · subst e2 e3 e4
    have y0 := h2 (by omega)
    have z0 := h3 (by omega)
    subst y0 z0
    refine ⟨0, 0, x, fun q => ?_, ?_, ?_⟩
    · first | rfl | cases q
    · show 0 * 0 + 0 * 0 + x * zP pk 0 = B
      omega
    · show _ = 0 * 0 + 0 * 0 + x * wP pk 0
      omega
  · subst e2 e3 e4
    have z0 := h3 (by omega)
    subst z0
    refine ⟨y, 0, x, fun q => ?_, ?_, ?_⟩
    · first | rfl | cases q
    · show y * (zP pk 1) + 0 * 0 + x * zP pk 0 = B
      omega
    · show _ = y * (wP pk 1) + 0 * 0 + x * wP pk 0
      omega
  · subst e2 e3 e4
    have z0 := h3 (by omega)
    subst z0
    refine ⟨x, 0, y, fun q => ?_, ?_, ?_⟩
    · first | rfl | cases q
    · show x * (zP pk 0) + 0 * 0 + y * zP pk 1 = B
      omega
    · show _ = x * (wP pk 0) + 0 * 0 + y * wP pk 1
      omega
  · subst e2 e3 e4
    refine ⟨y, z, x, fun q => ?_, ?_, ?_⟩
    · first | rfl | cases q
    · show y * (zP pk 1) + z * (zP pk 2) + x * zP pk 0 = B
      omega
    · show _ = y * (wP pk 1) + z * (wP pk 2) + x * wP pk 0
      omega
  · subst e2 e3 e4
    refine ⟨x, z, y, fun q => ?_, ?_, ?_⟩
    · first | rfl | cases q
    · show x * (zP pk 0) + z * (zP pk 2) + y * zP pk 1 = B
      omega
    · show _ = x * (wP pk 0) + z * (wP pk 2) + y * wP pk 1
      omega
  · subst e2 e3 e4
    refine ⟨x, y, z, fun q => ?_, ?_, ?_⟩
    · first | rfl | cases q
    · show x * (zP pk 0) + y * (zP pk 1) + z * zP pk 2 = B
      omega
    · show _ = x * (wP pk 0) + y * (wP pk 1) + z * wP pk 2
      omega
