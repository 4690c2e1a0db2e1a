-- PURE: small rows of the law
theorem mx0 {r : Nat} (h : r < 2 ^ 31) : (if (0 : Int32) < nI r then nI r else 0) = nI r := by
  by_cases z : (0 : Int32) < nI r
  · rw [if_pos z]
  · rw [if_neg z]
    have := (nI_leI (a := r) (b := 0) h (by omega)).mp (Int32.not_lt.mp z)
    rw [show r = 0 by omega]
    rfl
theorem lcmp_eq {x y : Int64} (h : x = y) : lg_cmp x y = 0 := by
  subst h
  simp [lg_cmp]
