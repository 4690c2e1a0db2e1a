-- PURE: the model's one row of numbers, bounds, and the flow told in its way
/-- the model's row of all that hours change -/
def nowF (σ : Sg) : Nat → Int32 := fun j => if j < 2 then (if j = 0 then σ 11 4 else σ 11 3) else if j < 12 then σ 2 (j - 2) else if j < 22 then σ 3 (j - 12) else if j < 32 then σ 4 (j - 22) else σ 8 (j - 32)
/-- the cells of the model -/
def rC (cI cZ : ClassId) (m : Nat) (b : Nat → Nat) (σ : Sg) (κ ζ : Nat → Int32) (t : Int32) : va_W :=
  [(m, .inr (2, [.int t, .int (σ 11 0), .int (σ 11 1), .int (σ 11 2), .ref (b 0), .ref (b 1), .ref (b 2), .ref (b 3), .ref (b 4), .ref (b 5), .ref (b 6), .ref (b 7), .ref (b 8), .ref (b 9)])),
   (b 0, .inl (cI, 10, .inl (σ 0))), (b 1, .inl (cI, 10, .inl (σ 1))), (b 2, .inl (cI, 16, .inl (σ 5))), (b 3, .inl (cI, 16, .inl (σ 6))), (b 4, .inl (cI, 16, .inl (σ 7))), (b 5, .inl (cZ, 16, .inl (σ 9))), (b 6, .inl (cZ, 16, .inl (σ 10))), (b 7, .inl (cI, 48, .inl (nowF σ))), (b 8, .inl (cI, 48, .inl κ)), (b 9, .inl (cZ, 10, .inl ζ))]
theorem nw_0 (σ : Sg) : nowF σ 0 = σ 11 4 := rfl
theorem nw_1 (σ : Sg) : nowF σ 1 = σ 11 3 := rfl
theorem nw_2 (σ : Sg) {f : Nat} (h : f < 10) : nowF σ (2 + f) = σ 2 f := by
  unfold nowF
  rw [if_neg (by omega), if_pos (by omega), show 2 + f - 2 = f by omega]
theorem nw_12 (σ : Sg) {f : Nat} (h : f < 10) : nowF σ (12 + f) = σ 3 f := by
  unfold nowF
  rw [if_neg (by omega), if_neg (by omega), if_pos (by omega), show 12 + f - 12 = f by omega]
theorem nw_22 (σ : Sg) {f : Nat} (h : f < 10) : nowF σ (22 + f) = σ 4 f := by
  unfold nowF
  rw [if_neg (by omega), if_neg (by omega), if_neg (by omega), if_pos (by omega), show 22 + f - 22 = f by omega]
theorem nw_32 (σ : Sg) (d : Nat) : nowF σ (32 + d) = σ 8 d := by
  unfold nowF
  rw [if_neg (by omega), if_neg (by omega), if_neg (by omega), if_neg (by omega), show 32 + d - 32 = d by omega]
theorem nwu_0 (σ : Sg) (x : Int32) : upd (nowF σ) 0 x = nowF (sc σ 4 x) := by
  funext j
  unfold upd nowF
  by_cases h : j = 0
  · subst h; rfl
  · rw [if_neg h, if_neg h, if_neg h]; rfl
theorem nwu_1 (σ : Sg) (x : Int32) : upd (nowF σ) 1 x = nowF (sc σ 3 x) := by
  funext j
  unfold upd nowF
  by_cases h : j = 1
  · subst h; rfl
  · rw [if_neg h]
    by_cases h2 : j < 2
    · have : j = 0 := by omega
      subst this; rfl
    · rw [if_neg h2, if_neg h2]; rfl
theorem nwu_2 (σ : Sg) {f : Nat} (x : Int32) (h : f < 10) : upd (nowF σ) (2 + f) x = nowF (su σ 2 f x) := by
  funext j
  by_cases e : j = 2 + f
  · subst e
    rw [nw_2 _ h]
    show upd _ _ _ _ = upd (σ 2) f x f
    rw [pk_us, pk_us]
  · rw [pk_un e]
    unfold nowF
    by_cases h1 : j < 2
    · rw [if_pos h1, if_pos h1]; rfl
    · rw [if_neg h1, if_neg h1]
      by_cases h2 : j < 12
      · rw [if_pos h2, if_pos h2]
        show _ = upd (σ 2) f x (j - 2)
        rw [pk_un (by omega)]
      · rw [if_neg h2, if_neg h2]; rfl
theorem nwu_12 (σ : Sg) {f : Nat} (x : Int32) (h : f < 10) : upd (nowF σ) (12 + f) x = nowF (su σ 3 f x) := by
  funext j
  by_cases e : j = 12 + f
  · subst e
    rw [nw_12 _ h]
    show upd _ _ _ _ = upd (σ 3) f x f
    rw [pk_us, pk_us]
  · rw [pk_un e]
    unfold nowF
    by_cases h1 : j < 2
    · rw [if_pos h1, if_pos h1]; rfl
    · rw [if_neg h1, if_neg h1]
      by_cases h2 : j < 12
      · rw [if_pos h2, if_pos h2]; rfl
      · rw [if_neg h2, if_neg h2]
        by_cases h3 : j < 22
        · rw [if_pos h3, if_pos h3]
          show _ = upd (σ 3) f x (j - 12)
          rw [pk_un (by omega)]
        · rw [if_neg h3, if_neg h3]; rfl
theorem nwu_22 (σ : Sg) {f : Nat} (x : Int32) (h : f < 10) : upd (nowF σ) (22 + f) x = nowF (su σ 4 f x) := by
  funext j
  by_cases e : j = 22 + f
  · subst e
    rw [nw_22 _ h]
    show upd _ _ _ _ = upd (σ 4) f x f
    rw [pk_us, pk_us]
  · rw [pk_un e]
    unfold nowF
    by_cases h1 : j < 2
    · rw [if_pos h1, if_pos h1]; rfl
    · rw [if_neg h1, if_neg h1]
      by_cases h2 : j < 12
      · rw [if_pos h2, if_pos h2]; rfl
      · rw [if_neg h2, if_neg h2]
        by_cases h3 : j < 22
        · rw [if_pos h3, if_pos h3]; rfl
        · rw [if_neg h3, if_neg h3]
          by_cases h4 : j < 32
          · rw [if_pos h4, if_pos h4]
            show _ = upd (σ 4) f x (j - 22)
            rw [pk_un (by omega)]
          · rw [if_neg h4, if_neg h4]; rfl
theorem nwu_32 (σ : Sg) (d : Nat) (x : Int32) : upd (nowF σ) (32 + d) x = nowF (su σ 8 d x) := by
  funext j
  by_cases e : j = 32 + d
  · subst e
    rw [nw_32]
    show upd _ _ _ _ = upd (σ 8) d x d
    rw [pk_us, pk_us]
  · rw [pk_un e]
    unfold nowF
    by_cases h1 : j < 2
    · rw [if_pos h1, if_pos h1]; rfl
    · rw [if_neg h1, if_neg h1]
      by_cases h2 : j < 12
      · rw [if_pos h2, if_pos h2]; rfl
      · rw [if_neg h2, if_neg h2]
        by_cases h3 : j < 22
        · rw [if_pos h3, if_pos h3]; rfl
        · rw [if_neg h3, if_neg h3]
          by_cases h4 : j < 32
          · rw [if_pos h4, if_pos h4]; rfl
          · rw [if_neg h4, if_neg h4]
            show _ = upd (σ 8) d x (j - 32)
            rw [pk_un (by omega)]
-- places of a state
theorem sr_eq (σ : Sg) (i : Nat) (f : Nat → Int32) : sr σ i f i = f := by
  unfold sr
  rw [show Nat.beq i i = true from Nat.beq_refl i]
  rfl
theorem sr_ne (σ : Sg) {i r : Nat} (f : Nat → Int32) (h : ¬ r = i) : sr σ i f r = σ r := by
  unfold sr
  rw [show Nat.beq r i = false from by
    cases q : Nat.beq r i
    · rfl
    · exact absurd (Nat.eq_of_beq_eq_true q) h]
  rfl
theorem sr_comm (σ : Sg) {i r : Nat} (f g : Nat → Int32) (h : ¬ i = r) : sr (sr σ i f) r g = sr (sr σ r g) i f := by
  funext q
  by_cases h1 : q = i
  · subst h1
    rw [sr_ne _ _ h, sr_eq, sr_eq]
  · by_cases h2 : q = r
    · subst h2
      rw [sr_eq, sr_ne _ _ h1, sr_eq]
    · rw [sr_ne _ _ h2, sr_ne _ _ h1, sr_ne _ _ h1, sr_ne _ _ h2]
theorem su_comm (σ : Sg) {i r : Nat} (j l : Nat) (x y : Int32) (h : ¬ i = r) : su (su σ i j x) r l y = su (su σ r l y) i j x := by
  unfold su
  rw [sr_ne _ _ (fun q => h q.symm), sr_ne _ _ h]
  exact sr_comm σ _ _ h
theorem su_sc (σ : Sg) {i : Nat} (j l : Nat) (x y : Int32) (h : ¬ i = 11) : sc (su σ i j x) l y = su (sc σ l y) i j x := by
  unfold su sc
  rw [sr_ne _ _ (fun q => h q.symm), sr_ne _ _ h]
  exact sr_comm σ _ _ h
theorem su_in (σ : Sg) (i j : Nat) (x : Int32) : su σ i j x i j = x := by
  unfold su
  rw [sr_eq, pk_us]
theorem su_out (σ : Sg) (i : Nat) {j l : Nat} (x : Int32) (h : ¬ l = j) : su σ i j x i l = σ i l := by
  unfold su
  rw [sr_eq, pk_un h]
theorem su_row (σ : Sg) {i r : Nat} (j : Nat) (x : Int32) (h : ¬ r = i) : su σ i j x r = σ r := by
  unfold su
  rw [sr_ne _ _ h]
theorem sc_row (σ : Sg) {r : Nat} (j : Nat) (x : Int32) (h : ¬ r = 11) : sc σ j x r = σ r := by
  unfold sc
  rw [sr_ne _ _ h]
theorem sr_same (σ : Sg) (i : Nat) : sr σ i (σ i) = σ := by
  funext r
  by_cases h : r = i
  · subst h; rw [sr_eq]
  · rw [sr_ne _ _ h]
theorem sr_sr (σ : Sg) (i : Nat) (f g : Nat → Int32) : sr (sr σ i f) i g = sr σ i g := by
  funext r
  by_cases h : r = i
  · subst h; rw [sr_eq, sr_eq]
  · rw [sr_ne _ _ h, sr_ne _ _ h, sr_ne _ _ h]
-- small numbers
theorem mn_nI {a b : Nat} (ha : a < 2 ^ 31) (hb : b < 2 ^ 31) : mn (nI a) (nI b) = nI (min a b) := by
  unfold mn
  by_cases h : b < a
  · rw [if_pos (nI_lt h ha), show min a b = b by omega]
  · rw [if_neg (nI_nlt (by omega) hb), show min a b = a by omega]
theorem ab_nI {a : Nat} (ha : a < 2 ^ 31) : ab (nI a) = nI a := by
  unfold ab
  rw [if_pos (nI_pos' ha)]
theorem neg_nI {a : Nat} (ha : a < 2 ^ 31) : (-nI a).toInt = -(a : Int) := sb_negT ha
theorem le_neg {a : Nat} (ha : a < 2 ^ 31) : 0 ≤ -nI a ↔ a = 0 := by
  rw [Int32.le_iff_toInt_le, neg_nI ha]
  simp
theorem ab_neg {a : Nat} (ha : a < 2 ^ 31) : ab (-nI a) = nI a := by
  unfold ab
  by_cases h : a = 0
  · subst h; rfl
  · rw [if_neg (fun q => h ((le_neg ha).mp q))]
    simp
theorem sub_nI {a b : Nat} (h : a ≤ b) : nI a - nI b = -nI (b - a) := by
  rw [← pk_sub h]
  simp
theorem ndiv2 {k : Nat} (hk : k < 2 ^ 31) : (-nI k) / 2 = -nI (k / 2) := by
  apply Int32.toInt_inj.mp
  rw [Int32.toInt_div, neg_nI hk, neg_nI (by omega)]
  rw [show (2 : Int32).toInt = 2 from rfl, Int.neg_tdiv]
  rw [Int.tdiv_eq_ediv_of_nonneg (by omega)]
  rw [Int.bmod_eq_of_le (by omega) (by omega)]
  omega
theorem div2 {k : Nat} (hk : k < 2 ^ 31) : nI k / 2 = nI (k / 2) := pk_div (d := 2) hk (by omega) (by omega)
/-- the model's way to tell a ditch's flow -/
theorem flow_two {la lb c wa wb : Nat} (hla : la < 2 ^ 30) (hlb : lb < 2 ^ 30) (hc : c < 2 ^ 30) (hwa : wa < 2 ^ 30) (hwb : wb < 2 ^ 30) :
    (if 0 < nI la - nI lb then mn (mn (nI c) (ab (nI la - nI lb) / 2)) (nI wa) else -mn (mn (nI c) (ab (nI la - nI lb) / 2)) (nI wb)) =
    (if 0 ≤ (nI la - nI lb) / 2 then mn ((nI la - nI lb) / 2) (mn (nI c) (nI wa)) else -mn (-((nI la - nI lb) / 2)) (mn (nI c) (nI wb))) := by
  rcases Nat.lt_or_ge lb la with h | h
  · rw [pk_sub (Nat.le_of_lt h)]
    rw [if_pos (show 0 < nI (la - lb) from nI_lt (a := 0) (by omega) (by omega)), ab_nI (by omega), div2 (by omega)]
    rw [if_pos (nI_pos' (by omega)), mn_nI (by omega) (by omega), mn_nI (by omega) (by omega), mn_nI (by omega) (by omega), mn_nI (by omega) (by omega)]
    congr 1
    omega
  · rw [sub_nI h, ab_neg (by omega), div2 (by omega), ndiv2 (by omega)]
    rw [if_neg (show ¬ 0 < -nI (lb - la) by rw [Int32.lt_iff_toInt_lt, neg_nI (by omega)]; simp)]
    rw [mn_nI (by omega) (by omega), mn_nI (by omega) (by omega)]
    by_cases h0 : (lb - la) / 2 = 0
    · rw [h0, if_pos (by decide), show -nI 0 = nI 0 from rfl, mn_nI (by omega) (by omega), mn_nI (by omega) (by omega)]
      rw [show min (min c 0) wb = 0 by omega, show min 0 (min c wa) = 0 by omega]
      rfl
    · rw [if_neg (fun q => h0 ((le_neg (by omega)).mp q)), Int32.neg_neg, mn_nI (by omega) (by omega), mn_nI (by omega) (by omega)]
      congr 2
      omega
