-- PURE: small steps of the Sim's loops
theorem dec_nI {a : Nat} (h : 0 < a) : nI a + (-1) = nI (a - 1) := by
  rw [← pk_sub (a := a) (b := 1) h, Int32.sub_eq_add_neg]
  rfl
theorem two_nI (a : Nat) : 2 * nI a = nI (2 * a) := by
  apply Int32.toBitVec_inj.1
  apply BitVec.eq_of_toNat_eq
  simp [nI]
theorem nr_0a {υ : Sg} {i : Nat} (h : wv (it wetB i υ) i < 6) : nrB υ i = 0 := by
  rw [iw_v i υ i (Nat.le_refl _)] at h
  unfold nrB
  rw [if_neg (Int32.not_le.mpr h)]
theorem nr_0b {υ : Sg} {i : Nat} (h : it wetB i υ 4 i = 1) : nrB υ i = 0 := by
  rw [iw_4, if_neg (fun z => by omega)] at h
  unfold nrB
  rw [if_pos h]
  split <;> rfl
theorem nr_1 {υ : Sg} {i : Nat} (h : ¬ wv (it wetB i υ) i < 6) (h4 : ¬ it wetB i υ 4 i = 1) : nrB υ i = 1 := by
  rw [iw_v i υ i (Nat.le_refl _)] at h
  rw [iw_4, if_neg (fun z => by omega)] at h4
  unfold nrB
  rw [if_pos (Int32.not_lt.mp h), if_neg h4]
theorem rn_step (a b s : Int32) : (a - s) + (b - a) = b - s := by
  rw [Int32.sub_eq_add_neg, Int32.sub_eq_add_neg, Int32.sub_eq_add_neg, Int32.add_comm b, Int32.add_assoc, ← Int32.add_assoc (-s), Int32.add_comm (-s), Int32.add_assoc (-a), ← Int32.add_assoc a, Int32.add_right_neg, Int32.zero_add, Int32.add_comm]
theorem b_mul {x y : Int32} (h : x = 0 ∨ x = 1) : x * y = if x = 0 then 0 else y := by
  rcases h with rfl | rfl
  · rw [if_pos rfl, Int32.zero_mul]
  · rw [if_neg (by decide), Int32.one_mul]
