-- PURE: what isSame adds up
theorem dc_self (x : Int32) {v : Int32} (h : v ≠ 0) : Op.cmpValue (FP.dcmp (FP.ddiv (FP.i2d x) (FP.i2d v)) (FP.ddiv (FP.i2d x) (FP.i2d v))) CmpOp.l = 0 := by
  have h1 : FP.Core.dIsNaN (FP.Core.ddiv (FP.Core.i2d x) (FP.Core.i2d v)) = false :=
    FP.Core.ddiv_out (FP.Core.DFin.notNaN (FP.Core.i2d_fin x)) (FP.Core.i2d_fin v) (fun z => FP.Core.i2d_ne_zero h ((FP.Core.zero_bits2 _).mp z))
  have h2 : FP.dcmp (FP.ddiv (FP.i2d x) (FP.i2d v)) (FP.ddiv (FP.i2d x) (FP.i2d v)) = some .eq := FP.Core.dcmp_self ((FP.Core.notNaN_iff _).mp h1)
  rw [h2]
  rfl
theorem mean_0 {n k : Nat} {σ : Sg} (hst : Shp n k σ) (hn : nI n = 0) : Op.cmpValue (FP.dcmp (meanS σ) FP.dconst0) CmpOp.l = 0 := by
  have := hst.1
  have h0 : n = 0 := (nI_eq (a := n) (b := 0) (by omega) (by omega)).mp hn
  unfold meanS
  rw [hst.eF, if_pos h0]
  rfl
theorem mean_1 {n k : Nat} {σ : Sg} (hst : Shp n k σ) (hn : ¬ nI n = 0) : Op.cmpValue (FP.dcmp (meanS σ) (FP.ddiv (FP.i2d (sumI (fun f => σ 2 f) n)) (FP.i2d (nI n)))) CmpOp.l = 0 := by
  unfold meanS waterS
  rw [hst.eF, if_neg (fun z => hn (by rw [z]; rfl))]
  exact dc_self _ hn
theorem amax_or (f : Nat → Int32) : ∀ i, (amax f i = -1 ∧ i = 0) ∨ ∃ j, j < i ∧ amax f i = nI j := by
  intro i
  induction i with
  | zero => exact Or.inl ⟨rfl, rfl⟩
  | succ i ih =>
    show (((if amax f i = -1 then nI i else if f (amax f i).toNatClampNeg < f i then nI i else amax f i) = -1) ∧ _) ∨ ∃ j, j < i + 1 ∧ (if amax f i = -1 then nI i else if f (amax f i).toNatClampNeg < f i then nI i else amax f i) = nI j
    by_cases h : amax f i = -1
    · rw [if_pos h]; exact Or.inr ⟨i, by omega, rfl⟩
    · rw [if_neg h]
      by_cases h2 : f (amax f i).toNatClampNeg < f i
      · rw [if_pos h2]; exact Or.inr ⟨i, by omega, rfl⟩
      · rw [if_neg h2]
        rcases ih with z | ⟨j, hj, ej⟩
        · exact absurd z.1 h
        · exact Or.inr ⟨j, by omega, ej⟩
theorem amax_c1 {f : Nat → Int32} {i : Nat} (h : amax f i = -1) : nI i = amax f (i + 1) := by
  show _ = (if amax f i = -1 then nI i else if f (amax f i).toNatClampNeg < f i then nI i else amax f i)
  rw [if_pos h]
theorem amax_c2 {f : Nat → Int32} {i j : Nat} (h : amax f i = nI j) (hj : j < 2 ^ 30) (hlt : ¬ f i ≤ f j) : nI i = amax f (i + 1) := by
  show _ = (if amax f i = -1 then nI i else if f (amax f i).toNatClampNeg < f i then nI i else amax f i)
  rw [h, if_neg (nI_ne_m1 (by omega)), nI_clamp (by omega), if_pos (Int32.not_le.mp hlt)]
theorem amax_c3 {f : Nat → Int32} {i j : Nat} (h : amax f i = nI j) (hj : j < 2 ^ 30) (hle : f i ≤ f j) : nI j = amax f (i + 1) := by
  show _ = (if amax f i = -1 then nI i else if f (amax f i).toNatClampNeg < f i then nI i else amax f i)
  rw [h, if_neg (nI_ne_m1 (by omega)), nI_clamp (by omega), if_neg (Int32.not_lt.mpr hle)]
theorem b01_0 {x : Int32} (h : x = 0 ∨ x = 1) (h1 : ¬ x = 1) : x = 0 := h.resolve_right h1
theorem b01_n {x : Int32} (h : x = 1) : ¬ x = 0 := by rw [h]; decide
theorem b01_i {x : Int32} (h : x = 0 ∨ x = 1) : (if x = 0 then (0 : Int32) else 1) = x := by rcases h with rfl | rfl <;> rfl
theorem isW_le {σ : Sg} {i : Nat} (h : σ 2 i ≤ 3) : isW σ i = 0 := by unfold isW; rw [if_neg (le3_n h)]
theorem isW_gt {σ : Sg} {i : Nat} (h : ¬ σ 2 i ≤ 3) : isW σ i = 1 := by unfold isW; rw [if_pos (le3_4 h)]
