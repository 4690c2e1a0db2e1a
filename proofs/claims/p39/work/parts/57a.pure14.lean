-- PURE: what every call keeps
theorem hasF_lt {i n : Nat} {σ : Sg} {x : Int32} (h : σ 11 i = nI n) (hn : n < 2 ^ 31) (hf : ¬ hasF i σ x = 0) : ∃ j, j < n ∧ x = nI j := by
  rcases hasF_iff h hn x with z | z
  · exact absurd z.1 hf
  · exact z.2
theorem Shp.pF {n k : Nat} {σ : Sg} (h : Shp n k σ) (hn : ¬ n = 10) (x y : Int32) : Shp (n + 1) k (putF n x y σ) := by
  obtain ⟨h1, h2, h3, h4, h5, h6⟩ := h
  unfold putF
  rw [if_neg (by omega)]
  refine ⟨by omega, h2, rfl, h4, fun d hd => ?_, fun d hd => ?_⟩
  · obtain ⟨a, ha, ea⟩ := h5 d hd
    exact ⟨a, by omega, ea⟩
  · rcases h6 d hd with z | ⟨b, hb, eb⟩
    · exact Or.inl z
    · exact Or.inr ⟨b, by omega, eb⟩
theorem Bnd.pF {B n : Nat} {σ : Sg} (h : Bnd B σ) (hn : ¬ n = 10) (hn10 : n ≤ 10) {x y : Int32} (hx : ¬ inR x 0 20 = 0) : Bnd B (putF n x y σ) := by
  obtain ⟨w, _, hw, ew⟩ := inR_n 0 20 (by decide) x hx
  obtain ⟨g1, g2, g3, g4, g5, g6, g7⟩ := h
  unfold putF
  rw [if_neg (by omega)]
  refine ⟨g1, fun f hf => ?_, g3, g4, g5, g6, g7⟩
  show ∃ w, w ≤ 20 ∧ upd (σ 0) n x f = nI w
  unfold upd
  by_cases e : f = n
  · rw [if_pos e]; exact ⟨w, hw, ew⟩
  · rw [if_neg e]; exact g2 f hf
theorem Shp.pD {n k : Nat} {σ : Sg} (h : Shp n k σ) (hk : ¬ k = 16) {x y : Int32} (z b : Int32) (hx : ∃ a, a < n ∧ x = nI a) (hy : (y = -1 ∧ ¬ b = 0) ∨ ∃ a, a < n ∧ y = nI a) : Shp n (k + 1) (putD k x y z b σ) := by
  obtain ⟨h1, h2, h3, h4, h5, h6⟩ := h
  unfold putD
  rw [if_neg (by omega)]
  refine ⟨h1, by omega, h3, rfl, fun d hd => ?_, fun d hd => ?_⟩
  · show ∃ a, a < n ∧ upd (σ 5) k x d = nI a
    unfold upd
    by_cases e : d = k
    · rw [if_pos e]; exact hx
    · rw [if_neg e]; exact h5 d (by omega)
  · show (upd (σ 6) k y d = -1 ∧ ¬ upd (σ 9) k b d = 0) ∨ ∃ a, a < n ∧ upd (σ 6) k y d = nI a
    unfold upd
    by_cases e : d = k
    · rw [if_pos e, if_pos e]; exact hy
    · rw [if_neg e, if_neg e]; exact h6 d (by omega)
theorem Bnd.pD {B k : Nat} {σ : Sg} (h : Bnd B σ) (hk : ¬ k = 16) (hk16 : k ≤ 16) {x y z b : Int32} (hz : ¬ inR z 1 9 = 0) (hb : b = 0 ∨ b = 1) : Bnd B (putD k x y z b σ) := by
  obtain ⟨w, _, hw, ew⟩ := inR_n 1 9 (by decide) z hz
  obtain ⟨g1, g2, g3, g4, g5, g6, g7⟩ := h
  unfold putD
  rw [if_neg (by omega)]
  refine ⟨g1, g2, fun d hd => ?_, g4, g5, fun d hd => ?_, fun d hd => ?_⟩
  · show ∃ w, w ≤ 9 ∧ upd (σ 7) k z d = nI w
    unfold upd
    by_cases e : d = k
    · rw [if_pos e]; exact ⟨w, hw, ew⟩
    · rw [if_neg e]; exact g3 d hd
  · show upd (σ 9) k b d = 0 ∨ upd (σ 9) k b d = 1
    unfold upd
    by_cases e : d = k
    · rw [if_pos e]; exact hb
    · rw [if_neg e]; exact g6 d hd
  · show upd (σ 10) k 1 d = 0 ∨ upd (σ 10) k 1 d = 1
    unfold upd
    by_cases e : d = k
    · rw [if_pos e]; exact Or.inr rfl
    · rw [if_neg e]; exact g7 d hd
theorem Bnd.sr2 {B : Nat} {σ : Sg} (h : Bnd B σ) {x : Int32} (hx : ¬ inR x 0 9 = 0) : Bnd B (sc σ 2 x) := by
  obtain ⟨w, _, hw, ew⟩ := inR_n 0 9 (by decide) x hx
  subst ew
  exact h.ra hw
theorem Bnd.fl {B : Nat} {σ : Sg} (h : Bnd B σ) (j : Nat) {x : Int32} (hx : ¬ inR x 1 50 = 0) : Bnd (B + 50) (addW σ j x) := by
  obtain ⟨w, _, hw, ew⟩ := inR_n 1 50 (by decide) x hx
  subst ew
  exact h.aw j hw
theorem Bnd.ps {n k B : Nat} {σ : Sg} (hst : Shp n k σ) (h : Bnd B σ) {x : Int32} (hx : ¬ inR x 1 48 = 0) (hB : B + 11700 < 2 ^ 29) : Bnd (B + 12000) (hours x.toNatClampNeg σ) := by
  obtain ⟨w, _, hw, ew⟩ := inR_n 1 48 (by decide) x hx
  subst ew
  rw [nI_clamp (by omega)]
  exact (Bnd.hrs hst h w (by omega)).mono (by omega)
theorem law_c {t L : Nat} (hL : L ≤ 2048) (ht : 4 * t ≤ 4096) : nI L - 4 < nI (4 * t) ↔ L < 4 * t + 4 := by
  rcases Nat.lt_or_ge L 4 with h | h
  · have e : nI L - 4 = -nI (4 - L) := by
      rw [← Int32.neg_sub]
      congr 1
      exact pk_sub (a := 4) (by omega)
    rw [e, Int32.lt_iff_toInt_lt, sb_negT (by omega), nI_toInt (by omega)]
    omega
  · rw [show nI L - 4 = nI (L - 4) from pk_sub (b := 4) h, nI_ltI (by omega) (by omega)]
    omega
theorem ar_of {A : Array Value} {U : State} {ty : FieldType} (h : (Cond.arrayClass ty).before A U = true) (hp : ∀ c, U.vm.findClass ("[" ++ ty.toString) = some c → va_RA U c ty) : ∃ cA, ArrOfT U cA ty ∧ va_RA U cA ty := by
  obtain ⟨cA, kA, comp, hfind, hk, hkind⟩ := Cond.arrayClass_spec h
  exact ⟨cA, fun n z => ⟨fun k h => (by cases h), kA, hk, comp, hkind⟩, hp cA hfind⟩
