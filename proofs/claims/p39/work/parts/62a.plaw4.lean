-- PURE: which were ruined ahead of an hour
def wzF (υ : Sg) (i : Nat) : Nat → Int32 := fun f => if f < i then υ 4 f else 0
theorem wz_0 (υ : Sg) : wzF υ 0 = fun _ => 0 := by
  funext f; unfold wzF; rw [if_neg (by omega)]
theorem wz_s (υ : Sg) (i : Nat) : upd (wzF υ i) i (υ 4 i) = wzF υ (i + 1) := by
  funext f
  by_cases e : f = i
  · subst e; rw [pk_us]; unfold wzF; rw [if_pos (by omega)]
  · rw [pk_un e]
    unfold wzF
    by_cases h : f < i
    · rw [if_pos h, if_pos (by omega)]
    · rw [if_neg h, if_neg (by omega)]
theorem wz_at {υ : Sg} {n f : Nat} (h : f < n) : wzF υ n f = υ 4 f := by unfold wzF; rw [if_pos h]
theorem wz_ne {υ : Sg} {n f : Nat} (h : f < n) (h1 : ¬ wzF υ n f = 0) : ¬ υ 4 f = 0 := by rw [wz_at h] at h1; exact h1
theorem wz_eq {υ : Sg} {n f : Nat} (h : f < n) (h1 : wzF υ n f = 0) : υ 4 f = 0 := by rw [wz_at h] at h1; exact h1
theorem hour_j {υ σ : Sg} {j : Nat} (e : υ = hours j σ) : hour υ = hours (j + 1) σ := by rw [e]; rfl
theorem ut_0a {n k B j f : Nat} {σ υ : Sg} (hI : Iv n k B σ) (hf : f < n) (hB : B + 234 * 200 + 400 < 2 ^ 29) (hj : j + 1 ≤ 100) (e : υ = hours j σ) (h : untilS σ f < 0) : hour υ 4 f = 0 := by
  rw [hour_j e]
  exact Decidable.not_not.mp (fun z => ((until_is hI hf hB hj).mp z).1 h)
theorem ut_0b {n k B j f : Nat} {σ υ : Sg} (hI : Iv n k B σ) (hf : f < n) (hB : B + 234 * 200 + 400 < 2 ^ 29) (hj : j + 1 ≤ 100) (e : υ = hours j σ) (h : nI (j + 1) < untilS σ f) : hour υ 4 f = 0 := by
  rw [hour_j e]
  exact Decidable.not_not.mp (fun z => ((until_is hI hf hB hj).mp z).2 h)
theorem ut_1 {n k B j f : Nat} {σ υ : Sg} (hI : Iv n k B σ) (hf : f < n) (hB : B + 234 * 200 + 400 < 2 ^ 29) (hj : j + 1 ≤ 100) (e : υ = hours j σ) (h1 : ¬ untilS σ f < 0) (h2 : ¬ nI (j + 1) < untilS σ f) : hour υ 4 f = 1 := by
  have h3 : ¬ hour υ 4 f = 0 := by rw [hour_j e]; exact (until_is hI hf hB hj).mpr ⟨h1, h2⟩
  have h4 := (hI.hrs (j + 1) (by omega)).2.1.2.2.2.2.1 f (by have := hI.1.1; omega)
  rw [← hour_j e] at h4
  exact h4.resolve_left h3
