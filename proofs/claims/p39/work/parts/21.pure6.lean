-- PURE: the object, and what its methods answer
def oC (ob h h2 : Nat) : va_W := [(ob, .inr (1, [.ref h, .ref h2]))]
theorem inR_1 {x lo hi : Int32} (h : ¬ inR x lo hi = 0) : ¬ x < lo ∧ x ≤ hi := by
  unfold inR at h
  by_cases h1 : lo ≤ x
  · rw [if_pos h1] at h
    by_cases h2 : x ≤ hi
    · exact ⟨Int32.not_lt.mpr h1, h2⟩
    · rw [if_neg h2] at h; exact absurd rfl h
  · rw [if_neg h1] at h; exact absurd rfl h
theorem inR_t (lo hi : Nat) (hh : lo < 2 ^ 31 ∧ hi < 2 ^ 31) {t : Nat} (h1 : lo ≤ t) (h2 : t ≤ hi) : ¬ inR (nI t) (nI lo) (nI hi) = 0 := by
  unfold inR
  rw [if_pos ((nI_leI hh.1 (by omega)).mpr h1), if_pos ((nI_leI (by omega) hh.2).mpr h2)]
  decide
theorem putF_10 {n : Nat} (h : n = 10) (x y : Int32) (σ : Sg) : putF n x y σ = σ := by
  unfold putF
  rw [if_pos (by omega)]
theorem putD_16 {k : Nat} (h : k = 16) (x y z b : Int32) (σ : Sg) : putD k x y z b σ = σ := by
  unfold putD
  rw [if_pos (by omega)]
def amaxL (f : Nat → Int32) (i : Nat) : Int32 := if amax f i = -1 then 0 else f (amax f i).toNatClampNeg
theorem lastI_up {g : Nat → Int32} {L : Int32} {i : Nat} (h : ¬ g i = L) : lastI g L (i + 1) = lastI g L i := by
  show (if g i = L then nI i else lastI g L i) = _
  rw [if_neg h]
theorem lastI_at {g : Nat → Int32} {L : Int32} {i : Nat} (h : g i = L) : lastI g L (i + 1) = nI i := by
  show (if g i = L then nI i else lastI g L i) = _
  rw [if_pos h]
theorem amin_1 {g : Nat → Int32} {z : Int32} {i : Nat} (h : g i < (amin g z i).2) : amin g z (i + 1) = (nI i, g i) := by
  show (if g i < (amin g z i).2 then (nI i, g i) else amin g z i) = _
  rw [if_pos h]
theorem amin_2 {g : Nat → Int32} {z : Int32} {i : Nat} (h : ¬ g i < (amin g z i).2) : amin g z (i + 1) = amin g z i := by
  show (if g i < (amin g z i).2 then (nI i, g i) else amin g z i) = _
  rw [if_neg h]
