-- PURE: one marsh becomes like another
theorem fill_1 (f g : Nat → Int32) (i : Nat) : upd (fun j => if j < i then f j else g j) i (f i) = fun j => if j < i + 1 then f j else g j := by
  funext j
  by_cases e : j = i
  · subst e
    rw [pk_us, if_pos (by omega)]
  · rw [pk_un e]
    by_cases h : j < i
    · rw [if_pos h, if_pos (by omega)]
    · rw [if_neg h, if_neg (by omega)]
def cpA (i : Nat) (σ ρ : Sg) : Sg := fun r => cond (Nat.blt r 5) (fun j => if j < i then σ r j else ρ r j) (ρ r)
def cpB (i : Nat) (σ ρ : Sg) : Sg := fun r => cond (Nat.blt r 5) (ρ r) (cond (Nat.blt r 11) (fun j => if j < i then σ r j else ρ r j) (ρ r))
theorem blt_t {a b : Nat} (h : a < b) : Nat.blt a b = true := Nat.ble_eq_true_of_le h
theorem blt_f {a b : Nat} (h : b ≤ a) : Nat.blt a b = false := by
  cases q : Nat.blt a b
  · rfl
  · have : a + 1 ≤ b := Nat.le_of_ble_eq_true q
    omega
theorem cpA_0 (σ ρ : Sg) : cpA 0 σ ρ = ρ := by
  funext r
  unfold cpA
  cases Nat.blt r 5
  · rfl
  · funext j
    exact if_neg (t := σ r j) (Nat.not_lt_zero j)
theorem cpB_0 (σ ρ : Sg) : cpB 0 σ ρ = ρ := by
  funext r
  unfold cpB
  cases Nat.blt r 5
  · cases Nat.blt r 11
    · rfl
    · funext j
      exact if_neg (t := σ r j) (Nat.not_lt_zero j)
  · rfl
theorem cpA_1 (i : Nat) (σ ρ : Sg) : su (su (su (su (su (cpA i σ ρ) 0 i (σ 0 i)) 1 i (σ 1 i)) 2 i (σ 2 i)) 3 i (σ 3 i)) 4 i (σ 4 i) = cpA (i + 1) σ ρ := by
  funext r
  rcases Nat.lt_or_ge r 5 with h | h
  · rcases (show r = 0 ∨ r = 1 ∨ r = 2 ∨ r = 3 ∨ r = 4 by omega) with rfl | rfl | rfl | rfl | rfl
    · exact fill_1 (σ 0) (ρ 0) i
    · exact fill_1 (σ 1) (ρ 1) i
    · exact fill_1 (σ 2) (ρ 2) i
    · exact fill_1 (σ 3) (ρ 3) i
    · exact fill_1 (σ 4) (ρ 4) i
  · rw [su_row _ _ _ (by omega), su_row _ _ _ (by omega), su_row _ _ _ (by omega), su_row _ _ _ (by omega), su_row _ _ _ (by omega)]
    unfold cpA
    rw [blt_f h]
    rfl
theorem cpB_1 (i : Nat) (σ ρ : Sg) : su (su (su (su (su (su (cpB i σ ρ) 5 i (σ 5 i)) 6 i (σ 6 i)) 7 i (σ 7 i)) 8 i (σ 8 i)) 9 i (σ 9 i)) 10 i (σ 10 i) = cpB (i + 1) σ ρ := by
  funext r
  by_cases h : 5 ≤ r ∧ r < 11
  · rcases (show r = 5 ∨ r = 6 ∨ r = 7 ∨ r = 8 ∨ r = 9 ∨ r = 10 by omega) with rfl | rfl | rfl | rfl | rfl | rfl
    · exact fill_1 (σ 5) (ρ 5) i
    · exact fill_1 (σ 6) (ρ 6) i
    · exact fill_1 (σ 7) (ρ 7) i
    · exact fill_1 (σ 8) (ρ 8) i
    · exact fill_1 (σ 9) (ρ 9) i
    · exact fill_1 (σ 10) (ρ 10) i
  · rw [su_row _ _ _ (by omega), su_row _ _ _ (by omega), su_row _ _ _ (by omega), su_row _ _ _ (by omega), su_row _ _ _ (by omega), su_row _ _ _ (by omega)]
    unfold cpB
    rcases Nat.lt_or_ge r 5 with q | q
    · rw [blt_t q]
      rfl
    · rw [blt_f q, blt_f (show 11 ≤ r by omega)]
      rfl
/-- two rows of an array's values that are alike as far as it is long -/
theorem cell_eq {c : ClassId} {n : Nat} {f g : Nat → Int32} (h : ∀ j, j < n → f j = g j) : vp_cell c (n, .inl f) = vp_cell c (n, .inl g) := by
  rw [vp_cell_i, vp_cell_i]
  simp only [arrV]
  congr 1
  apply Array.ext
  · simp
  · intro i h1 h2
    simp at h1
    simp [h i h1]
theorem kD_fst {A : Nat → Prop} {ws ws' : va_W} (h : ws'.map Prod.fst = ws.map Prod.fst) (hD : va_D A ws) : va_D A ws' := by
  obtain ⟨h1, h2⟩ := kD_iff.mp hD
  refine kD_iff.mpr ⟨by rw [h]; exact h1, fun q hq => ?_⟩
  have : q.1 ∈ ws'.map Prod.fst := List.mem_map_of_mem hq
  rw [h] at this
  obtain ⟨z, hz, e⟩ := List.mem_map.mp this
  rw [← e]
  exact h2 z hz
theorem mC_congr {D : va_G} {cl : List vw_C} {cI cZ : ClassId} {h : Nat} {a : Nat → Nat} {ρ σ : Sg} {H : Heap} (hP : va_P D cl (mC cI cZ h a ρ) H) (h5 : ∀ r, r < 5 → ∀ j, j < 10 → ρ r j = σ r j) (h11 : ∀ r, 5 ≤ r → r < 11 → ∀ j, j < 16 → ρ r j = σ r j) (hs : ∀ i, i < 5 → ρ 11 i = σ 11 i) : va_P D cl (mC cI cZ h a σ) H := by
  intro k q hk
  rcases Nat.lt_or_ge k 12 with hk2 | hk2
  · rcases (show k = 0 ∨ k = 1 ∨ k = 2 ∨ k = 3 ∨ k = 4 ∨ k = 5 ∨ k = 6 ∨ k = 7 ∨ k = 8 ∨ k = 9 ∨ k = 10 ∨ k = 11 by omega) with rfl | rfl | rfl | rfl | rfl | rfl | rfl | rfl | rfl | rfl | rfl | rfl
    · cases hk
      have := hP 0 _ rfl
      rw [hs 0 (by omega), hs 1 (by omega), hs 2 (by omega), hs 3 (by omega), hs 4 (by omega)] at this
      exact this
    · cases hk; exact (hP 1 _ rfl).trans (congrArg some (cell_eq (h5 0 (by omega))))
    · cases hk; exact (hP 2 _ rfl).trans (congrArg some (cell_eq (h5 1 (by omega))))
    · cases hk; exact (hP 3 _ rfl).trans (congrArg some (cell_eq (h5 2 (by omega))))
    · cases hk; exact (hP 4 _ rfl).trans (congrArg some (cell_eq (h5 3 (by omega))))
    · cases hk; exact (hP 5 _ rfl).trans (congrArg some (cell_eq (h5 4 (by omega))))
    · cases hk; exact (hP 6 _ rfl).trans (congrArg some (cell_eq (h11 5 (by omega) (by omega))))
    · cases hk; exact (hP 7 _ rfl).trans (congrArg some (cell_eq (h11 6 (by omega) (by omega))))
    · cases hk; exact (hP 8 _ rfl).trans (congrArg some (cell_eq (h11 7 (by omega) (by omega))))
    · cases hk; exact (hP 9 _ rfl).trans (congrArg some (cell_eq (h11 8 (by omega) (by omega))))
    · cases hk; exact (hP 10 _ rfl).trans (congrArg some (cell_eq (h11 9 (by omega) (by omega))))
    · cases hk; exact (hP 11 _ rfl).trans (congrArg some (cell_eq (h11 10 (by omega) (by omega))))
  · have : (mC cI cZ h a σ)[k]? = none := by
      rw [List.getElem?_eq_none_iff]
      exact hk2
    rw [this] at hk
    cases hk
theorem kP_app {D : va_G} {cl : List vw_C} {w1 w2 : va_W} {H : Heap} : va_P D cl (w1 ++ w2) H ↔ va_P D cl w1 H ∧ va_P D cl w2 H := by
  constructor
  · intro h
    exact ⟨kP_iff.mpr fun q hq => kP_iff.mp h q (List.mem_append_left _ hq), kP_iff.mpr fun q hq => kP_iff.mp h q (List.mem_append_right _ hq)⟩
  · rintro ⟨h1, h2⟩
    exact h1.app h2
def cp5 (σ τ : Sg) : Sg := sc (sc (sc (sc (sc τ 0 (σ 11 0)) 1 (σ 11 1)) 2 (σ 11 2)) 3 (σ 11 3)) 4 (σ 11 4)
theorem like_end {D : va_G} {cl : List vw_C} {cI cZ : ClassId} {h2 : Nat} {a2 : Nat → Nat} {σ τ : Sg} {w1 : va_W} {A : Nat → Prop} {H : Heap} (hP : va_P D cl (w1 ++ mC cI cZ h2 a2 (cpB 16 σ (cpA 10 σ (cp5 σ τ)))) H) (hD : va_D A (w1 ++ mC cI cZ h2 a2 (cpB 16 σ (cpA 10 σ (cp5 σ τ))))) : va_P D cl (w1 ++ mC cI cZ h2 a2 σ) H ∧ va_D A (w1 ++ mC cI cZ h2 a2 σ) := by
  refine ⟨?_, kD_fst (by rw [List.map_append, List.map_append]; rfl) hD⟩
  obtain ⟨p1, p2⟩ := kP_app.mp hP
  refine kP_app.mpr ⟨p1, mC_congr p2 (fun r hr j hj => ?_) (fun r hr1 hr2 j hj => ?_) (fun i hi => ?_)⟩
  · unfold cpB cpA
    rw [blt_t hr]
    exact if_pos hj
  · unfold cpB
    rw [blt_f hr1, blt_t hr2]
    exact if_pos hj
  · rcases (show i = 0 ∨ i = 1 ∨ i = 2 ∨ i = 3 ∨ i = 4 by omega) with rfl | rfl | rfl | rfl | rfl <;> rfl
