-- PURE: a Sim that is copied; sets of fields as a row of bits
def zS (σ : Sg) : Sg := sc (sc (sc σ 2 0) 3 0) 4 0
theorem fX_z (σ : Sg) (j : Nat) : fX (zS σ) j = fX σ j := by
  unfold zS; rw [← fX_sc, ← fX_sc, ← fX_sc]
theorem dX_z (σ : Sg) (j : Nat) : dX (zS σ) j = dX σ j := by
  unfold zS; rw [← dX_sc, ← dX_sc, ← dX_sc]
theorem sC_z0 {cI cN : ClassId} {sm : Nat} {q : SA} (σ : Sg) : sC cI cN sm q S0 0 0 = sC cI cN sm q (zS σ) 0 0 := sC_congr (fun j hj => absurd hj (Nat.not_lt_zero j)) (fun j hj => absurd hj (Nat.not_lt_zero j)) rfl rfl rfl
theorem sC_z1 {cI cN : ClassId} {sm : Nat} {q : SA} (σ : Sg) (n k : Nat) : sC cI cN sm q (sc (sc (sc (zS σ) 2 (σ 11 2)) 4 (σ 11 4)) 3 (σ 11 3)) n k = sC cI cN sm q σ n k := sC_congr (fun j _ => by rw [← fX_sc, ← fX_sc, ← fX_sc, fX_z]) (fun j _ => by rw [← dX_sc, ← dX_sc, ← dX_sc, dX_z]) rfl rfl rfl
theorem fX_new (σ : Sg) (i : Nat) {a b c d e : Int32} (h0 : a = σ 0 i) (h1 : b = σ 1 i) (h2 : c = σ 2 i) (h3 : d = σ 3 i) (h4 : e = σ 4 i) : upd (upd (upd (upd (upd (fun _ => 0) 0 a) 1 b) 2 c) 3 d) 4 e = fX σ i := by
  subst h0; subst h1; subst h2; subst h3; subst h4
  funext j
  match j with
  | 0 => rfl
  | 1 => rfl
  | 2 => rfl
  | 3 => rfl
  | 4 => rfl
  | j + 5 => rw [pk_un (by omega), pk_un (by omega), pk_un (by omega), pk_un (by omega), pk_un (by omega)]; rfl
theorem dX_new (σ : Sg) (i : Nat) {a b c d e f : Int32} (h0 : a = σ 5 i) (h1 : b = σ 6 i) (h2 : c = σ 7 i) (h3 : d = σ 9 i) (h4 : e = σ 10 i) (h5 : f = σ 8 i) : upd (upd (upd (upd (upd (upd (fun _ => 0) 0 a) 1 b) 2 c) 3 d) 4 e) 5 f = dX σ i := by
  subst h0; subst h1; subst h2; subst h3; subst h4; subst h5
  funext j
  match j with
  | 0 => rfl
  | 1 => rfl
  | 2 => rfl
  | 3 => rfl
  | 4 => rfl
  | 5 => rfl
  | j + 6 => rw [pk_un (by omega), pk_un (by omega), pk_un (by omega), pk_un (by omega), pk_un (by omega), pk_un (by omega)]; rfl
/-- a mask as a row of bits -/
def bz (w : Nat) : Nat → Int32 := fun q => if w.testBit q then 1 else 0
theorem bz_t {w q : Nat} (h : w.testBit q = true) : bz w q = 1 := by unfold bz; rw [if_pos h]
theorem bz_f {w q : Nat} (h : w.testBit q = false) : bz w q = 0 := by unfold bz; rw [if_neg (by rw [h]; decide)]
theorem bz_0 {w q : Nat} (h : bz w q = 0) : w.testBit q = false := by
  cases z : w.testBit q with
  | false => rfl
  | true => rw [bz_t z] at h; exact absurd h (by decide)
theorem bz_1 {w q : Nat} (h : ¬ bz w q = 0) : w.testBit q = true := by
  cases z : w.testBit q with
  | true => rfl
  | false => rw [bz_f z] at h; exact absurd rfl h
theorem bz_01 (w q : Nat) : bz w q = 0 ∨ bz w q = 1 := by
  cases z : w.testBit q with
  | true => exact Or.inr (bz_t z)
  | false => exact Or.inl (bz_f z)
theorem or_01 {x y : Int32} (hx : x = 0 ∨ x = 1) (hy : y = 0 ∨ y = 1) : x ||| y = 0 ∨ x ||| y = 1 := by
  rcases hx with rfl | rfl <;> rcases hy with rfl | rfl <;> decide
theorem up_01 {f : Nat → Int32} {b a : Nat} {x : Int32} (hf : ∀ q, f q = 0 ∨ f q = 1) (hx : x = 0 ∨ x = 1) : upd f b x a = 0 ∨ upd f b x a = 1 := by
  by_cases e : a = b
  · subst e; rw [pk_us]; exact hx
  · rw [pk_un e]; exact hf a
theorem bz_pow (j : Nat) : upd (fun _ => 0) j 1 = bz (2 ^ j) := by
  funext q
  by_cases e : q = j
  · subst e; rw [pk_us, bz_t Nat.testBit_two_pow_self]
  · rw [pk_un e, bz_f (Nat.testBit_two_pow_of_ne (fun z => e z.symm))]
theorem bz_or (w b q : Nat) : bz (w ||| 2 ^ b) q = if q = b then 1 else bz w q := by
  by_cases e : q = b
  · subst e
    rw [if_pos rfl, bz_t (by rw [Nat.testBit_or, Nat.testBit_two_pow_self, Bool.or_true])]
  · rw [if_neg e]
    unfold bz
    rw [Nat.testBit_or, Nat.testBit_two_pow_of_ne (fun z => e z.symm), Bool.or_false]
theorem bz_fw (a b w q : Nat) : bz (fw a b w) q = if q = b then (bz w b ||| bz w a) else bz w q := by
  cases h : w.testBit a with
  | true =>
    rw [fw_t h, bz_or, bz_t h]
    by_cases e : q = b
    · rw [if_pos e, if_pos e]
      rcases bz_01 w b with z | z <;> rw [z] <;> rfl
    · rw [if_neg e, if_neg e]
  | false =>
    rw [fw_f h, bz_f h]
    by_cases e : q = b
    · subst e
      rw [if_pos rfl]
      rcases bz_01 w q with z | z <;> rw [z] <;> rfl
    · rw [if_neg e]
theorem zs_p {w a b : Nat} {E x y : Int32} (hE : E = bz w a) (hx : x = bz w b ||| bz w a) (hy : y = upd (bz w) b x a ||| E) : upd (upd (bz w) b x) a y = bz (fw a b w) := by
  subst hy; subst hx; subst hE
  funext q
  rw [bz_fw]
  by_cases e : q = a
  · subst e
    rw [pk_us]
    by_cases e2 : q = b
    · subst e2
      rw [pk_us, if_pos rfl]
      rcases bz_01 w q with z | z <;> rw [z] <;> rfl
    · rw [pk_un e2, if_neg e2]
      rcases bz_01 w q with z | z <;> rw [z] <;> rfl
  · rw [pk_un e]
    by_cases e2 : q = b
    · subst e2
      rw [pk_us, if_pos rfl]
    · rw [pk_un e2, if_neg e2]
theorem zs_d {w a b : Nat} {E x y : Int32} (hE : E = bz w a ||| bz w b) (hx : x = bz w b ||| bz w a) (hy : y = upd (bz w) b x a ||| E) : upd (upd (bz w) b x) a y = bz (fw b a (fw a b w)) := by
  subst hy; subst hx; subst hE
  funext q
  rw [bz_fw b a, bz_fw a b w a, bz_fw a b w b, bz_fw a b w q, if_pos rfl]
  by_cases e : q = a
  · subst e
    rw [pk_us, if_pos rfl]
    by_cases e2 : q = b
    · subst e2
      rw [pk_us, if_pos rfl]
    · rw [pk_un e2, if_neg e2]
      rcases bz_01 w q with z | z <;> rcases bz_01 w b with z2 | z2 <;> rw [z, z2] <;> rfl
  · rw [pk_un e, if_neg e]
    by_cases e2 : q = b
    · subst e2
      rw [pk_us, if_pos rfl]
    · rw [pk_un e2, if_neg e2]
theorem bz_sum (w : Nat) (n : Nat) : sumI (bz w) n = nI (cN w n) := by
  induction n with
  | zero => rfl
  | succ n ih =>
    show sumI (bz w) n + bz w n = nI (cN w n + (if w.testBit n then 1 else 0))
    rw [ih]
    cases z : w.testBit n with
    | true => rw [bz_t z]; exact nI_add _ 1
    | false => rw [bz_f z, if_neg (by decide), Int32.add_zero]; rfl
theorem rn_all {n k j : Nat} {σ : Sg} (hst : Shp n k σ) (hj : j < n) : rnd σ (2 ^ j) n = cloM σ j := by
  have h := rn_stay (rn_fix hst hj) 1
  rw [show n - 1 + 1 = n by omega] at h
  unfold cloM
  rw [hst.eF, h]
theorem re_sum {n k j : Nat} {σ : Sg} (hst : Shp n k σ) (hj : j < n) : sumI (bz (rnd σ (2 ^ j) n)) n - 1 = reachS σ j := by
  have hn := hst.1
  rw [rn_all hst hj, bz_sum]
  unfold reachS
  rw [cN_out (clo_lt hst hj) 10 hn]
theorem pN_k {n k : Nat} {σ : Sg} (hst : Shp n k σ) (w : Nat) : passN σ w k = passM σ w := by
  unfold passM; rw [hst.eD]
theorem sm_neg {σ : Sg} {d q : Nat} {n k : Nat} (hst : Shp n k σ) (hd : d < k) (h : ¬ 0 ≤ σ 6 d) : stepM σ d q = q := by
  have hn := hst.1
  rcases hst.2.2.2.2.2 d hd with z | ⟨b, hb, eb⟩
  · exact sm_sea z.1
  · exact absurd (by rw [eb]; exact nI_pos' (by omega)) h
