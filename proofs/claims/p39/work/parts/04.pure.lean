-- PURE: the state as rows of numbers, and what an hour does to it
def mn (x y : Int32) : Int32 := if y < x then y else x
def ab (x : Int32) : Int32 := if 0 ≤ x then x else 0 - x
def it (b : Nat → Sg → Sg) : Nat → Sg → Sg
  | 0, σ => σ
  | n + 1, σ => b n (it b n σ)
def sumI (g : Nat → Int32) : Nat → Int32
  | 0 => 0
  | n + 1 => sumI g n + g n
abbrev tZ (cI cZ cL : ClassId) : List (ClassId × FieldType) := [(cI, .int), (cZ, .boolean), (cL, .array .int)]
/-- the cells of a Marsh -/
def mC (cI cZ : ClassId) (h : Nat) (a : Nat → Nat) (σ : Sg) : va_W :=
  [(h, .inr (0, [.ref (a 0), .ref (a 1), .ref (a 2), .ref (a 3), .ref (a 4), .ref (a 5), .ref (a 6), .ref (a 7), .ref (a 8), .ref (a 9), .ref (a 10), .int (σ 11 0), .int (σ 11 1), .int (σ 11 2), .int (σ 11 3), .int (σ 11 4)])),
   (a 0, .inl (cI, 10, .inl (σ 0))), (a 1, .inl (cI, 10, .inl (σ 1))), (a 2, .inl (cI, 10, .inl (σ 2))), (a 3, .inl (cI, 10, .inl (σ 3))), (a 4, .inl (cZ, 10, .inl (σ 4))), (a 5, .inl (cI, 16, .inl (σ 5))), (a 6, .inl (cI, 16, .inl (σ 6))), (a 7, .inl (cI, 16, .inl (σ 7))), (a 8, .inl (cI, 16, .inl (σ 8))), (a 9, .inl (cZ, 16, .inl (σ 9))), (a 10, .inl (cZ, 16, .inl (σ 10)))]
/-- the shape: n fields, k drains, and where they lead -/
def Shp (n k : Nat) (σ : Sg) : Prop := n ≤ 10 ∧ k ≤ 16 ∧ σ 11 0 = nI n ∧ σ 11 1 = nI k ∧ (∀ d, d < k → ∃ a, a < n ∧ σ 5 d = nI a) ∧ (∀ d, d < k → (σ 6 d = -1 ∧ ¬ σ 9 d = 0) ∨ ∃ b, b < n ∧ σ 6 d = nI b)
theorem Shp.f0 {n k : Nat} {σ : Sg} (h : Shp n k σ) : σ 11 0 = nI n := h.2.2.1
theorem Shp.f1 {n k : Nat} {σ : Sg} (h : Shp n k σ) : σ 11 1 = nI k := h.2.2.2.1
theorem Shp.of {n k : Nat} {σ τ : Sg} (h : Shp n k σ) (h0 : τ 11 0 = σ 11 0) (h1 : τ 11 1 = σ 11 1) (h5 : τ 5 = σ 5) (h6 : τ 6 = σ 6) (h9 : τ 9 = σ 9) : Shp n k τ := by
  unfold Shp
  rw [h0, h1, h5, h6, h9]
  exact h
theorem Shp.osu {n k : Nat} {σ : Sg} (h : Shp n k σ) (i j : Nat) (x : Int32) (h5 : ¬ i = 5) (h6 : ¬ i = 6) (h9 : ¬ i = 9) (h11 : ¬ i = 11) : Shp n k (su σ i j x) := by
  have e : ∀ r, ¬ i = r → su σ i j x r = σ r := fun r hr => by
    show cond (Nat.beq r i) _ _ = _
    rw [show Nat.beq r i = false from by
      cases h : Nat.beq r i
      · rfl
      · exact absurd (Nat.eq_of_beq_eq_true h).symm hr]
    rfl
  exact h.of (by rw [e 11 h11]) (by rw [e 11 h11]) (e 5 h5) (e 6 h6) (e 9 h9)
theorem Shp.osc {n k : Nat} {σ : Sg} (h : Shp n k σ) (j : Nat) (x : Int32) (h0 : ¬ j = 0) (h1 : ¬ j = 1) : Shp n k (sc σ j x) := by
  have e : ∀ r, ¬ j = r → sc σ j x 11 r = σ 11 r := fun r hr => by
    show cond (Nat.beq r j) _ _ = _
    rw [show Nat.beq r j = false from by
      cases h : Nat.beq r j
      · rfl
      · exact absurd (Nat.eq_of_beq_eq_true h).symm hr]
    rfl
  exact h.of (e 0 h0) (e 1 h1) rfl rfl rfl
theorem Shp.iter {n k : Nat} {b : Nat → Sg → Sg} {σ : Sg} (h : Shp n k σ) (hb : ∀ i σ, Shp n k σ → Shp n k (b i σ)) (t : Nat) : Shp n k (it b t σ) := by
  induction t with
  | zero => exact h
  | succ t ih => exact hb t _ ih
def hasF (i : Nat) (σ : Sg) (x : Int32) : Int32 := if 0 ≤ x then (if x < σ 11 i then 1 else 0) else 0
theorem hasF_0 {n k j : Nat} {σ : Sg} (h : Shp n k σ) (hj : j < n) : hasF 0 σ (nI j) = 1 := by
  have := h.1
  unfold hasF
  rw [h.f0, if_pos (nI_pos' (by omega)), if_pos (nI_lt hj (by omega))]
theorem hasF_1 {n k j : Nat} {σ : Sg} (h : Shp n k σ) (hj : j < k) : hasF 1 σ (nI j) = 1 := by
  have := h.2.1
  unfold hasF
  rw [h.f1, if_pos (nI_pos' (by omega)), if_pos (nI_lt hj (by omega))]
/-- a field is there just if it is a number below n -/
theorem hasF_iff {i n : Nat} {σ : Sg} (h : σ 11 i = nI n) (hn : n < 2 ^ 31) (x : Int32) : (hasF i σ x = 0 ∧ ∀ j, j < n → x ≠ nI j) ∨ (hasF i σ x = 1 ∧ ∃ j, j < n ∧ x = nI j) := by
  unfold hasF
  rw [h]
  by_cases h0 : 0 ≤ x
  · obtain ⟨j, hj, rfl⟩ := nI_of (x := x) (fun z => Int32.not_le.mpr z h0)
    rw [if_pos h0]
    by_cases h1 : j < n
    · rw [if_pos (nI_lt h1 hn)]
      exact Or.inr ⟨rfl, j, h1, rfl⟩
    · rw [if_neg (nI_nlt (by omega) hj)]
      refine Or.inl ⟨rfl, fun i hi e => ?_⟩
      have := (nI_eq hj (by omega)).mp e
      omega
  · rw [if_neg h0]
    refine Or.inl ⟨rfl, fun j hj e => h0 ?_⟩
    rw [e]
    exact nI_pos' (by omega)
def addW (σ : Sg) (f : Nat) (x : Int32) : Sg := su σ 2 f (σ 2 f + x)
def rainB (f : Nat) (σ : Sg) : Sg := su σ 2 f (σ 2 f + σ 11 2)
def flH (σ : Sg) (a b : Nat) : Int32 := (σ 0 a + σ 2 a - σ 0 b - σ 2 b) / 2
def flA (σ : Sg) (d a b : Nat) : Int32 :=
  if σ 10 d = 0 then 0 else
  if ¬ σ 9 d = 0 then mn (σ 7 d) (σ 2 a) else
  if 0 ≤ flH σ a b then mn (flH σ a b) (mn (σ 7 d) (σ 2 a)) else -mn (-flH σ a b) (mn (σ 7 d) (σ 2 b))
/-- what a drain carries now -/
def flow (σ : Sg) (d : Nat) : Int32 := flA σ d (σ 5 d).toNatClampNeg (σ 6 d).toNatClampNeg
def letF (d : Nat) (w : Int32) (σ : Sg) : Sg := su (if σ 6 d = -1 then sc (addW σ (σ 5 d).toNatClampNeg (-w)) 3 (σ 11 3 + w) else addW (addW σ (σ 5 d).toNatClampNeg (-w)) (σ 6 d).toNatClampNeg w) 8 d (σ 8 d + ab w)
def carryB (d : Nat) (σ : Sg) : Sg := letF d (flow σ d) σ
def isW (σ : Sg) (j : Nat) : Int32 := if 4 ≤ σ 2 j then 1 else 0
def wv (σ : Sg) (f : Nat) : Int32 := if 4 ≤ σ 2 f then σ 3 f + 1 else 0
def wetB (f : Nat) (σ : Sg) : Sg := if 6 ≤ wv σ f then su (su σ 3 f (wv σ f)) 4 f 1 else su σ 3 f (wv σ f)
theorem wv_0 {σ : Sg} {j : Nat} (h : isW σ j = 0) : wv σ j = 0 := by
  unfold isW at h
  unfold wv
  by_cases h4 : 4 ≤ σ 2 j
  · rw [if_pos h4] at h; exact absurd h (by decide)
  · rw [if_neg h4]
theorem wv_1 {σ : Sg} {j : Nat} (h : ¬ isW σ j = 0) : wv σ j = σ 3 j + 1 := by
  unfold isW at h
  unfold wv
  by_cases h4 : 4 ≤ σ 2 j
  · rw [if_pos h4]
  · rw [if_neg h4] at h; exact absurd rfl h
def nF (σ : Sg) : Nat := (σ 11 0).toNatClampNeg
def nD (σ : Sg) : Nat := (σ 11 1).toNatClampNeg
def hour1 (σ : Sg) : Sg := it rainB (nF σ) σ
def hour2 (σ : Sg) : Sg := it carryB (nD σ) (hour1 σ)
def hour3 (σ : Sg) : Sg := it wetB (nF σ) (hour2 σ)
def hour (σ : Sg) : Sg := sc (hour3 σ) 4 (hour3 σ 11 4 + 1)
def hours (t : Nat) (σ : Sg) : Sg := it (fun _ => hour) t σ
def ruinN (σ : Sg) : Int32 := sumI (fun f => if σ 4 f = 0 then 0 else 1) (nF σ)
def lost (σ : Sg) : Int32 := sumI (fun f => if σ 4 f = 0 then 0 else σ 1 f) (nF σ)
def turnS (σ : Sg) (d : Nat) : Sg := su σ 10 d (if σ 10 d = 0 then 1 else 0)
def putF (n : Nat) (x y : Int32) (σ : Sg) : Sg := if 10 ≤ n then σ else sc (su (su σ 0 n x) 1 n y) 0 (nI (n + 1))
def putD (k : Nat) (x y z b : Int32) (σ : Sg) : Sg := if 16 ≤ k then σ else sc (su (su (su (su (su σ 5 k x) 6 k y) 7 k z) 9 k b) 10 k 1) 1 (nI (k + 1))
theorem Shp.aw {n k : Nat} {σ : Sg} (h : Shp n k σ) (f : Nat) (x : Int32) : Shp n k (addW σ f x) := h.osu 2 f _ (by decide) (by decide) (by decide) (by decide)
theorem Shp.rain {n k : Nat} (i : Nat) (σ : Sg) (h : Shp n k σ) : Shp n k (rainB i σ) := h.osu 2 i _ (by decide) (by decide) (by decide) (by decide)
theorem Shp.wet {n k : Nat} (i : Nat) (σ : Sg) (h : Shp n k σ) : Shp n k (wetB i σ) := by
  unfold wetB
  split
  · exact (h.osu 3 i _ (by decide) (by decide) (by decide) (by decide)).osu 4 i _ (by decide) (by decide) (by decide) (by decide)
  · exact h.osu 3 i _ (by decide) (by decide) (by decide) (by decide)
theorem Shp.let {n k : Nat} (i : Nat) (w : Int32) (σ : Sg) (h : Shp n k σ) : Shp n k (letF i w σ) := by
  unfold letF
  refine Shp.osu ?_ 8 i _ (by decide) (by decide) (by decide) (by decide)
  split
  · exact (h.aw _ _).osc 3 _ (by decide) (by decide)
  · exact (h.aw _ _).aw _ _
theorem Shp.carry {n k : Nat} (i : Nat) (σ : Sg) (h : Shp n k σ) : Shp n k (carryB i σ) := h.let i _ σ
theorem Shp.eF {n k : Nat} {σ : Sg} (h : Shp n k σ) : nF σ = n := by
  have := h.1
  unfold nF
  rw [h.f0, nI_clamp (by omega)]
theorem Shp.eD {n k : Nat} {σ : Sg} (h : Shp n k σ) : nD σ = k := by
  have := h.2.1
  unfold nD
  rw [h.f1, nI_clamp (by omega)]
theorem Shp.h1 {n k : Nat} {σ : Sg} (h : Shp n k σ) : Shp n k (hour1 σ) := h.iter Shp.rain _
theorem Shp.h2 {n k : Nat} {σ : Sg} (h : Shp n k σ) : Shp n k (hour2 σ) := h.h1.iter Shp.carry _
theorem Shp.h3 {n k : Nat} {σ : Sg} (h : Shp n k σ) : Shp n k (hour3 σ) := h.h2.iter Shp.wet _
theorem Shp.hr {n k : Nat} {σ : Sg} (h : Shp n k σ) : Shp n k (hour σ) := h.h3.osc 4 _ (by decide) (by decide)
theorem Shp.hrs {n k : Nat} {σ : Sg} (h : Shp n k σ) (t : Nat) : Shp n k (hours t σ) := h.iter (fun _ _ h => h.hr) t
