-- PURE: what water comes to: sets of fields as masks; one round of the drains; the rounds until nothing is new
theorem mk_and (a b : Nat) : nI a &&& nI b = nI (a &&& b) := by
  unfold nI
  apply Int32.toBitVec_inj.1
  simp
theorem mk_or (a b : Nat) : nI a ||| nI b = nI (a ||| b) := by
  unfold nI
  apply Int32.toBitVec_inj.1
  simp
theorem mk_shl : ∀ a, a < 10 → (1 : Int32) <<< (nI a &&& 31) = nI (2 ^ a) := by decide
theorem mk_or0 (a : Nat) : nI a ||| 0 = nI a := by
  rw [show (0 : Int32) = nI 0 from rfl, mk_or, Nat.or_zero]
theorem mk_and0 (a : Nat) : nI a &&& 0 = 0 := by
  rw [show (0 : Int32) = nI 0 from rfl, mk_and, Nat.and_zero]
theorem mk_bit {m a : Nat} (hm : m < 1024) : nI m &&& nI (2 ^ a) = 0 ↔ m.testBit a = false := by
  have hle : m &&& 2 ^ a ≤ m := Nat.and_le_left
  rw [mk_and, show (0 : Int32) = nI 0 from rfl, nI_eq (by omega) (by omega)]
  constructor
  · intro h
    have h2 : (m &&& 2 ^ a).testBit a = false := by rw [h]; exact Nat.zero_testBit a
    rw [Nat.testBit_and, Nat.testBit_two_pow_self, Bool.and_true] at h2
    exact h2
  · intro h
    apply Nat.eq_of_testBit_eq
    intro i
    rw [Nat.testBit_and, Nat.zero_testBit]
    by_cases e : a = i
    · subst e
      rw [h]
      rfl
    · rw [Nat.testBit_two_pow_of_ne e, Bool.and_false]
/-- what is on one field comes to another one -/
def fw (a b q : Nat) : Nat := if q.testBit a then q ||| 2 ^ b else q
theorem fw_t {a b q : Nat} (h : q.testBit a = true) : fw a b q = q ||| 2 ^ b := by
  unfold fw; rw [if_pos h]
theorem fw_f {a b q : Nat} (h : q.testBit a = false) : fw a b q = q := by
  unfold fw; rw [if_neg (by rw [h]; decide)]
theorem fw_lt {a b q n : Nat} (hq : q < 2 ^ n) (hb : b < n) : fw a b q < 2 ^ n := by
  unfold fw
  split
  · exact Nat.or_lt_two_pow hq (Nat.pow_lt_pow_right (by decide) hb)
  · exact hq
theorem fw_sub {a b q i : Nat} (h : q.testBit i = true) : (fw a b q).testBit i = true := by
  unfold fw
  split
  · rw [Nat.testBit_or, h]; rfl
  · exact h
def stepM (σ : Sg) (d q : Nat) : Nat :=
  if σ 10 d = 0 then q else if σ 6 d = -1 then q else if σ 9 d = 0 then fw (σ 6 d).toNatClampNeg (σ 5 d).toNatClampNeg (fw (σ 5 d).toNatClampNeg (σ 6 d).toNatClampNeg q) else fw (σ 5 d).toNatClampNeg (σ 6 d).toNatClampNeg q
def passN (σ : Sg) (q : Nat) : Nat → Nat
  | 0 => q
  | d + 1 => stepM σ d (passN σ q d)
def passM (σ : Sg) (q : Nat) : Nat := passN σ q (nD σ)
def rnd (σ : Sg) (q : Nat) : Nat → Nat
  | 0 => q
  | t + 1 => passM σ (rnd σ q t)
theorem sm_0 {σ : Sg} {d q : Nat} (h : σ 10 d = 0) : stepM σ d q = q := by
  unfold stepM; rw [if_pos h]
theorem sm_sea {σ : Sg} {d q : Nat} (h : σ 6 d = -1) : stepM σ d q = q := by
  unfold stepM; split; rfl; rfl
theorem sm_p {σ : Sg} {d q a b : Nat} (h : ¬ σ 10 d = 0) (h6 : ¬ σ 6 d = -1) (h9 : ¬ σ 9 d = 0) (ea : σ 5 d = nI a) (eb : σ 6 d = nI b) (ha : a < 10) (hb : b < 10) : stepM σ d q = fw a b q := by
  unfold stepM; rw [if_neg h, if_neg h6, if_neg h9, ea, eb, nI_clamp (by omega), nI_clamp (by omega)]
theorem sm_d {σ : Sg} {d q a b : Nat} (h : ¬ σ 10 d = 0) (h6 : ¬ σ 6 d = -1) (h9 : σ 9 d = 0) (ea : σ 5 d = nI a) (eb : σ 6 d = nI b) (ha : a < 10) (hb : b < 10) : stepM σ d q = fw b a (fw a b q) := by
  unfold stepM; rw [if_neg h, if_neg h6, if_pos h9, ea, eb, nI_clamp (by omega), nI_clamp (by omega)]
theorem sm_any {n k d q : Nat} {σ : Sg} (hst : Shp n k σ) (hd : d < k) : stepM σ d q = q ∨ ∃ a b, a < n ∧ b < n ∧ (stepM σ d q = fw a b q ∨ stepM σ d q = fw b a (fw a b q)) := by
  have hn := hst.1
  by_cases h : σ 10 d = 0
  · exact Or.inl (sm_0 h)
  · obtain ⟨a, ha, ea⟩ := hst.2.2.2.2.1 d hd
    rcases hst.2.2.2.2.2 d hd with z | ⟨b, hb, eb⟩
    · exact Or.inl (sm_sea z.1)
    · have h6 : ¬ σ 6 d = -1 := by rw [eb]; exact nI_ne_m1 (by omega)
      refine Or.inr ⟨a, b, ha, hb, ?_⟩
      by_cases h9 : σ 9 d = 0
      · exact Or.inr (sm_d h h6 h9 ea eb (by omega) (by omega))
      · exact Or.inl (sm_p h h6 h9 ea eb (by omega) (by omega))
theorem sm_lt {n k d q : Nat} {σ : Sg} (hst : Shp n k σ) (hd : d < k) (hq : q < 2 ^ n) : stepM σ d q < 2 ^ n := by
  rcases sm_any (q := q) hst hd with h | ⟨a, b, ha, hb, h | h⟩
  · rw [h]; exact hq
  · rw [h]; exact fw_lt hq hb
  · rw [h]; exact fw_lt (fw_lt hq hb) ha
theorem sm_sub {n k d q i : Nat} {σ : Sg} (hst : Shp n k σ) (hd : d < k) (h : q.testBit i = true) : (stepM σ d q).testBit i = true := by
  rcases sm_any (q := q) hst hd with z | ⟨a, b, _, _, z | z⟩
  · rw [z]; exact h
  · rw [z]; exact fw_sub h
  · rw [z]; exact fw_sub (fw_sub h)
theorem pn_lt {n k q : Nat} {σ : Sg} (hst : Shp n k σ) (hq : q < 2 ^ n) : ∀ i, i ≤ k → passN σ q i < 2 ^ n := by
  intro i
  induction i with
  | zero => intro _; exact hq
  | succ i ih => intro h; exact sm_lt hst (by omega) (ih (by omega))
theorem pn_sub {n k q b : Nat} {σ : Sg} (hst : Shp n k σ) (h : q.testBit b = true) : ∀ i, i ≤ k → (passN σ q i).testBit b = true := by
  intro i
  induction i with
  | zero => intro _; exact h
  | succ i ih => intro hi; exact sm_sub hst (by omega) (ih (by omega))
theorem pm_lt {n k q : Nat} {σ : Sg} (hst : Shp n k σ) (hq : q < 2 ^ n) : passM σ q < 2 ^ n := by
  unfold passM; rw [hst.eD]; exact pn_lt hst hq k (Nat.le_refl _)
theorem pm_sub {n k q b : Nat} {σ : Sg} (hst : Shp n k σ) (h : q.testBit b = true) : (passM σ q).testBit b = true := by
  unfold passM; rw [hst.eD]; exact pn_sub hst h k (Nat.le_refl _)
theorem rn_lt {n k q : Nat} {σ : Sg} (hst : Shp n k σ) (hq : q < 2 ^ n) (t : Nat) : rnd σ q t < 2 ^ n := by
  induction t with
  | zero => exact hq
  | succ t ih => exact pm_lt hst ih
/-- how many there are -/
def cN (q : Nat) : Nat → Nat
  | 0 => 0
  | i + 1 => cN q i + (if q.testBit i then 1 else 0)
theorem cN_le (q i : Nat) : cN q i ≤ i := by
  induction i with
  | zero => exact Nat.le_refl _
  | succ i ih => show cN q i + (if q.testBit i then 1 else 0) ≤ i + 1; split <;> omega
theorem cN_mono {p q : Nat} (h : ∀ i, p.testBit i = true → q.testBit i = true) (i : Nat) : cN p i ≤ cN q i := by
  induction i with
  | zero => exact Nat.le_refl _
  | succ i ih =>
    show cN p i + (if p.testBit i then 1 else 0) ≤ cN q i + (if q.testBit i then 1 else 0)
    by_cases e : p.testBit i = true
    · rw [if_pos e, if_pos (h i e)]; omega
    · rw [if_neg e]; omega
theorem cN_strict {p q : Nat} (h : ∀ i, p.testBit i = true → q.testBit i = true) {b : Nat} (h1 : q.testBit b = true) (h0 : p.testBit b = false) : ∀ i, b < i → cN p i < cN q i := by
  intro i
  induction i with
  | zero => intro z; exact absurd z (by omega)
  | succ i ih =>
    intro z
    show cN p i + (if p.testBit i then 1 else 0) < cN q i + (if q.testBit i then 1 else 0)
    by_cases e : b = i
    · subst e
      have := cN_mono h b
      rw [if_pos h1, if_neg (by rw [h0]; decide)]; omega
    · have := ih (by omega)
      by_cases e : p.testBit i = true
      · rw [if_pos e, if_pos (h i e)]; omega
      · rw [if_neg e]; omega
theorem cN_full {q : Nat} : ∀ n, cN q n = n → ∀ i, i < n → q.testBit i = true := by
  intro n
  induction n with
  | zero => intro _ i hi; exact absurd hi (by omega)
  | succ n ih =>
    intro h i hi
    have h1 : cN q n + (if q.testBit n then 1 else 0) = n + 1 := h
    have h2 := cN_le q n
    by_cases e : q.testBit n = true
    · rw [if_pos e] at h1
      by_cases z : i = n
      · subst z; exact e
      · exact ih (by omega) i (by omega)
    · rw [if_neg e] at h1; omega
theorem cN_out {q n : Nat} (h : q < 2 ^ n) : ∀ i, n ≤ i → cN q i = cN q n := by
  intro i
  induction i with
  | zero => intro z; rw [show n = 0 by omega]
  | succ i ih =>
    intro z
    by_cases e : n = i + 1
    · rw [e]
    · show cN q i + (if q.testBit i then 1 else 0) = cN q n
      rw [ih (by omega), if_neg (by rw [Nat.testBit_lt_two_pow (Nat.lt_of_lt_of_le h (Nat.pow_le_pow_right (by decide) (by omega)))]; decide)]
      rfl
theorem mask_eq {p q n : Nat} (hp : p < 2 ^ n) (hq : q < 2 ^ n) (h : ∀ i, i < n → p.testBit i = q.testBit i) : p = q := by
  apply Nat.eq_of_testBit_eq
  intro i
  by_cases e : i < n
  · exact h i e
  · rw [Nat.testBit_lt_two_pow (Nat.lt_of_lt_of_le hp (Nat.pow_le_pow_right (by decide) (by omega))), Nat.testBit_lt_two_pow (Nat.lt_of_lt_of_le hq (Nat.pow_le_pow_right (by decide) (by omega)))]
theorem sub_ne {p q n : Nat} (hp : p < 2 ^ n) (hq : q < 2 ^ n) (h : ∀ i, p.testBit i = true → q.testBit i = true) (hne : ¬ q = p) : cN p n < cN q n := by
  by_cases z : ∃ b, b < n ∧ q.testBit b = true ∧ p.testBit b = false
  · obtain ⟨b, hb, h1, h0⟩ := z
    exact cN_strict h h1 h0 n hb
  · exfalso
    apply hne
    refine mask_eq hq hp (fun i hi => ?_)
    by_cases e : p.testBit i = true
    · rw [e]; exact h i e
    · have e2 : p.testBit i = false := by revert e; cases p.testBit i <;> decide
      by_cases e3 : q.testBit i = true
      · exact absurd ⟨i, hi, e3, e2⟩ z
      · rw [e2]; revert e3; cases q.testBit i <;> decide
theorem rn_count {n k j : Nat} {σ : Sg} (hst : Shp n k σ) (hj : j < n) (t : Nat) : passM σ (rnd σ (2 ^ j) t) = rnd σ (2 ^ j) t ∨ t + 1 ≤ cN (rnd σ (2 ^ j) t) n := by
  have hp : (2 : Nat) ^ j < 2 ^ n := Nat.pow_lt_pow_right (by decide) hj
  induction t with
  | zero =>
    refine Or.inr ?_
    have h := cN_strict (p := 0) (q := 2 ^ j) (fun i z => by rw [Nat.zero_testBit] at z; exact absurd z (by decide)) (Nat.testBit_two_pow_self (n := j)) (Nat.zero_testBit j) n hj
    show 0 + 1 ≤ cN (2 ^ j) n
    omega
  | succ t ih =>
    by_cases e : passM σ (rnd σ (2 ^ j) t) = rnd σ (2 ^ j) t
    · refine Or.inl ?_
      show passM σ (passM σ (rnd σ (2 ^ j) t)) = passM σ (rnd σ (2 ^ j) t)
      rw [e, e]
    · rcases ih with z | z
      · exact absurd z e
      · refine Or.inr ?_
        have h := sub_ne (rn_lt hst hp t) (pm_lt hst (rn_lt hst hp t)) (fun i y => pm_sub hst y) e
        show t + 1 + 1 ≤ cN (passM σ (rnd σ (2 ^ j) t)) n
        omega
/-- behind one round less than there are fields, nothing more is new -/
theorem rn_fix {n k j : Nat} {σ : Sg} (hst : Shp n k σ) (hj : j < n) : passM σ (rnd σ (2 ^ j) (n - 1)) = rnd σ (2 ^ j) (n - 1) := by
  have hp : (2 : Nat) ^ j < 2 ^ n := Nat.pow_lt_pow_right (by decide) hj
  rcases rn_count hst hj (n - 1) with z | z
  · exact z
  · have h1 := cN_le (rnd σ (2 ^ j) (n - 1)) n
    have h2 := cN_full n (show cN (rnd σ (2 ^ j) (n - 1)) n = n by omega)
    refine mask_eq (pm_lt hst (rn_lt hst hp _)) (rn_lt hst hp _) (fun i hi => ?_)
    rw [h2 i hi]
    exact pm_sub hst (h2 i hi)
theorem rn_stay {σ : Sg} {q t : Nat} (h : passM σ (rnd σ q t) = rnd σ q t) (x : Nat) : rnd σ q (t + x) = rnd σ q t := by
  induction x with
  | zero => rfl
  | succ x ih =>
    show passM σ (rnd σ q (t + x)) = rnd σ q t
    rw [ih, h]
theorem rn_one {σ : Sg} {q t v : Nat} (h : passM σ (rnd σ q t) = rnd σ q t) (h2 : passM σ (rnd σ q v) = rnd σ q v) : rnd σ q t = rnd σ q v := by
  rcases Nat.le_total t v with z | z
  · rw [show v = t + (v - t) by omega, rn_stay h]
  · rw [show t = v + (t - v) by omega, rn_stay h2]
/-- all fields to which water comes -/
def cloM (σ : Sg) (j : Nat) : Nat := rnd σ (2 ^ j) (nF σ - 1)
theorem clo_of {n k j t : Nat} {σ : Sg} (hst : Shp n k σ) (hj : j < n) (h : passM σ (rnd σ (2 ^ j) t) = rnd σ (2 ^ j) t) : rnd σ (2 ^ j) t = cloM σ j := by
  unfold cloM; rw [hst.eF]
  exact rn_one h (rn_fix hst hj)
theorem clo_lt {n k j : Nat} {σ : Sg} (hst : Shp n k σ) (hj : j < n) : cloM σ j < 2 ^ n := rn_lt hst (Nat.pow_lt_pow_right (by decide) hj) _
def reachS (σ : Sg) (j : Nat) : Int32 := nI (cN (cloM σ j) 10) - 1
theorem p10 {n q : Nat} (hn : n ≤ 10) (hq : q < 2 ^ n) : q < 1024 := Nat.lt_of_lt_of_le hq (Nat.pow_le_pow_right (by decide) hn)
def bcv (a : Int32) : Int32 :=
  let us (x y : Int32) : Int32 := (x.toUInt32 >>> (y.toUInt32 &&& Int32.toUInt32 31)).toInt32
  let b := a - (us a 1 &&& 1431655765)
  let c := (b &&& 858993459) + (us b 2 &&& 858993459)
  let d := (c + us c 4) &&& 252645135
  let e := d + us d 8
  (e + us e 16) &&& 63
theorem bc_all : ∀ m : Fin 1024, bcv (nI m.val) = nI (cN m.val 10) := by decide +kernel
theorem bc_is {m : Nat} (h : m < 1024) : bcv (nI m) = nI (cN m 10) := bc_all ⟨m, h⟩
