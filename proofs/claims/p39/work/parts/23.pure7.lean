-- PURE: steps of what is the best, with its value beside it
theorem amax_s1 {f : Nat → Int32} {i : Nat} (h : amax f i = -1) : amax f (i + 1) = nI i := by
  show (if amax f i = -1 then nI i else if f (amax f i).toNatClampNeg < f i then nI i else amax f i) = _
  rw [if_pos h]
theorem amax_s2 {f : Nat → Int32} {i : Nat} {v : Int32} (hv : v = f i) (h0 : ¬ amax f i = -1) (h : ¬ v ≤ amaxL f i) : amax f (i + 1) = nI i := by
  subst hv
  show (if amax f i = -1 then nI i else if f (amax f i).toNatClampNeg < f i then nI i else amax f i) = _
  unfold amaxL at h
  rw [if_neg h0] at h
  rw [if_neg h0, if_pos (Int32.not_le.mp h)]
theorem amax_s3 {f : Nat → Int32} {i : Nat} {v : Int32} (hv : v = f i) (h0 : ¬ amax f i = -1) (h : v ≤ amaxL f i) : amax f (i + 1) = amax f i := by
  subst hv
  show (if amax f i = -1 then nI i else if f (amax f i).toNatClampNeg < f i then nI i else amax f i) = _
  unfold amaxL at h
  rw [if_neg h0] at h
  rw [if_neg h0, if_neg (Int32.not_lt.mpr h)]
theorem amaxL_of {f : Nat → Int32} {i : Nat} {v : Int32} (hi : i < 2 ^ 31) (hv : v = f i) (h : amax f (i + 1) = nI i) : v = amaxL f (i + 1) := by
  subst hv
  unfold amaxL
  rw [h, if_neg (nI_ne_m1 hi), nI_clamp hi]
theorem amaxL_keep {f : Nat → Int32} {i : Nat} (h : amax f (i + 1) = amax f i) : amaxL f i = amaxL f (i + 1) := by
  unfold amaxL
  rw [h]
theorem amin_lt {g : Nat → Int32} {z v : Int32} {i : Nat} (hv : v = g i) (h : ¬ (amin g z i).2 ≤ v) : amin g z (i + 1) = (nI i, v) := by
  subst hv
  exact amin_1 (Int32.not_le.mp h)
theorem amin_ge {g : Nat → Int32} {z v : Int32} {i : Nat} (hv : v = g i) (h : (amin g z i).2 ≤ v) : amin g z (i + 1) = amin g z i := by
  subst hv
  exact amin_2 (Int32.not_lt.mpr h)
theorem aminF_0 {g : Nat → Int32} {v : Int32} {i : Nat} (hv : v = g i) (h : (aminF g i).1 = -1) : aminF g (i + 1) = (nI i, v) := by
  subst hv
  show (if (aminF g i).1 = -1 then (nI i, g i) else if g i < (aminF g i).2 then (nI i, g i) else aminF g i) = _
  rw [if_pos h]
theorem aminF_lt {g : Nat → Int32} {v : Int32} {i : Nat} (hv : v = g i) (h0 : ¬ (aminF g i).1 = -1) (h : ¬ (aminF g i).2 ≤ v) : aminF g (i + 1) = (nI i, v) := by
  subst hv
  show (if (aminF g i).1 = -1 then (nI i, g i) else if g i < (aminF g i).2 then (nI i, g i) else aminF g i) = _
  rw [if_neg h0, if_pos (Int32.not_le.mp h)]
theorem aminF_ge {g : Nat → Int32} {v : Int32} {i : Nat} (hv : v = g i) (h0 : ¬ (aminF g i).1 = -1) (h : (aminF g i).2 ≤ v) : aminF g (i + 1) = aminF g i := by
  subst hv
  show (if (aminF g i).1 = -1 then (nI i, g i) else if g i < (aminF g i).2 then (nI i, g i) else aminF g i) = _
  rw [if_neg h0, if_neg (Int32.not_lt.mpr h)]
theorem opB_0 {σ : Sg} {j d : Nat} (h : σ 10 d = 0) : opB σ j d = 0 := by
  unfold opB; rw [if_pos h]
theorem opB_1 {σ : Sg} {j d : Nat} (h : ¬ σ 10 d = 0) (h5 : σ 5 d = nI j) : opB σ j d = 1 := by
  unfold opB; rw [if_neg h, if_pos h5]
theorem opB_2 {σ : Sg} {j d : Nat} (h : ¬ σ 10 d = 0) (h5 : ¬ σ 5 d = nI j) (h6 : σ 6 d = nI j) : opB σ j d = 1 := by
  unfold opB; rw [if_neg h, if_neg h5, if_pos h6]
theorem opB_3 {σ : Sg} {j d : Nat} (h : ¬ σ 10 d = 0) (h5 : ¬ σ 5 d = nI j) (h6 : ¬ σ 6 d = nI j) : opB σ j d = 0 := by
  unfold opB; rw [if_neg h, if_neg h5, if_neg h6]
theorem isW_1 {σ : Sg} {j : Nat} (h : ¬ isW σ j = 0) : isW σ j = 1 := by
  unfold isW at h ⊢
  by_cases z : 4 ≤ σ 2 j
  · rw [if_pos z]
  · rw [if_neg z] at h; exact absurd rfl h
theorem sum_0 {g : Nat → Int32} {i : Nat} (h : g i = 0) : sumI g i = sumI g (i + 1) := by
  show _ = sumI g i + g i
  rw [h, Int32.add_zero]
theorem sum_1 {g : Nat → Int32} {i : Nat} {v : Int32} (h : g i = v) : sumI g i + v = sumI g (i + 1) := by
  show _ = sumI g i + g i
  rw [h]
theorem fstI_no {g : Nat → Int32} {i t : Nat} (h : g t = 0) : fstI g (i + 1) t = fstI g i (t + 1) := by
  show (if g t = 0 then _ else _) = _
  rw [if_pos h]
theorem fstI_yes {g : Nat → Int32} {i t : Nat} (h : ¬ g t = 0) : fstI g (i + 1) t = nI t := by
  show (if g t = 0 then _ else _) = _
  rw [if_neg h]
