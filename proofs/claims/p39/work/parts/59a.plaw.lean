-- PURE: what the law asks of one time
theorem amax_max (F : Nat → Int32) : ∀ n j, n < 2 ^ 30 → amax F n = nI j → j < n → ∀ i, i < n → F i ≤ F j := by
  intro n
  induction n with
  | zero => intro j _ _ hj; exact absurd hj (Nat.not_lt_zero j)
  | succ n ih =>
    intro j hn h hj i hi
    rcases amax_or F n with ⟨z, z0⟩ | ⟨j0, hj0, z⟩
    · subst z0
      have e := (amax_c1 z).symm.trans h
      have e2 : i = 0 := by omega
      have e3 : j = 0 := by omega
      rw [e2, e3]; exact Int32.le_refl _
    · by_cases hle : F n ≤ F j0
      · have e : j0 = j := (nI_eq (by omega) (by omega)).mp ((amax_c3 z (by omega) hle).trans h)
        subst e
        by_cases e2 : i = n
        · subst e2; exact hle
        · exact ih j0 (by omega) z hj0 i (by omega)
      · have e : n = j := (nI_eq (by omega) (by omega)).mp ((amax_c2 z (by omega) hle).trans h)
        subst e
        by_cases e2 : i = n
        · subst e2; exact Int32.le_refl _
        · exact Int32.le_trans (ih j0 (by omega) z hj0 i (by omega)) (Int32.le_of_lt (Int32.not_le.mp hle))
theorem nn_lt {w : Nat} {x : Int32} (h : x = nI w) (hw : w < 2 ^ 31) : ¬ x < 0 := by rw [h]; exact Int32.not_lt.mpr (nI_pos' hw)
theorem wet_le {n k B : Nat} {σ : Sg} (hI : Iv n k B σ) {f : Nat} (hf : f < n) (h : σ 4 f = 0) : σ 3 f ≤ 5 := by
  obtain ⟨w, hw, ew⟩ := hI.2.2.2.1 f hf h
  rw [ew]
  exact (nI_leI (a := w) (b := 5) (by omega) (by omega)).mpr hw
theorem ru_1 {n k B : Nat} {σ : Sg} (hI : Iv n k B σ) {f : Nat} (hf : f < n) (h : ¬ σ 4 f = 0) : σ 4 f = 1 := (hI.2.1.2.2.2.2.1 f (by have := hI.1.1; omega)).resolve_left h
-- hours until it is ruined
theorem fst_n (g : Nat → Int32) : ∀ i t, (fstI g i t = -1 ∧ ∀ u, t ≤ u → u < t + i → g u = 0) ∨ ∃ v, t ≤ v ∧ v < t + i ∧ fstI g i t = nI v ∧ ¬ g v = 0 ∧ ∀ u, t ≤ u → u < v → g u = 0 := by
  intro i
  induction i with
  | zero => intro t; exact Or.inl ⟨rfl, fun u h1 h2 => absurd h2 (by omega)⟩
  | succ i ih =>
    intro t
    by_cases h : g t = 0
    · rw [fstI_no h]
      rcases ih (t + 1) with ⟨z, z2⟩ | ⟨v, h1, h2, h3, h4, h5⟩
      · refine Or.inl ⟨z, fun u h1 h2 => ?_⟩
        by_cases e : u = t
        · subst e; exact h
        · exact z2 u (by omega) (by omega)
      · refine Or.inr ⟨v, by omega, by omega, h3, h4, fun u h6 h7 => ?_⟩
        by_cases e : u = t
        · subst e; exact h
        · exact h5 u (by omega) h7
    · rw [fstI_yes h]
      exact Or.inr ⟨t, Nat.le_refl _, by omega, rfl, h, fun u h1 h2 => absurd h2 (by omega)⟩
theorem until_0 {σ : Sg} {f : Nat} : untilS σ f = 0 ↔ ¬ σ 4 f = 0 := by
  unfold untilS
  rcases fst_n (fun i => hours i σ 4 f) 101 0 with ⟨z, z2⟩ | ⟨v, h1, h2, h3, h4, h5⟩
  · rw [z]
    exact ⟨fun h => absurd h (by decide), fun h => absurd (z2 0 (by omega) (by omega)) h⟩
  · rw [h3]
    constructor
    · intro h
      have e : v = 0 := (nI_eq (a := v) (b := 0) (by omega) (by omega)).mp h
      subst e
      exact h4
    · intro h
      by_cases e : v = 0
      · subst e; rfl
      · exact absurd (h5 0 (by omega) (by omega)) h
theorem ru_mono {n k B : Nat} {σ : Sg} (hI : Iv n k B σ) {f : Nat} (hf : f < n) (h : ¬ σ 4 f = 0) : ¬ hour σ 4 f = 0 := by
  rw [hour_4 hI.1 hf]
  split
  · decide
  · exact h
theorem ru_monos {n k B : Nat} {σ : Sg} (hI : Iv n k B σ) {f : Nat} (hf : f < n) (i : Nat) (hB : B + 234 * 200 + 400 < 2 ^ 29) (x : Nat) (hx : i + x ≤ 200) (h : ¬ hours i σ 4 f = 0) : ¬ hours (i + x) σ 4 f = 0 := by
  induction x with
  | zero => exact h
  | succ x ih => exact ru_mono (hI.hrs (i + x) (by omega)) hf (ih (by omega))
/-- ruined in as many hours as told, and not ahead of that -/
theorem until_is {n k B : Nat} {σ : Sg} (hI : Iv n k B σ) {f : Nat} (hf : f < n) (hB : B + 234 * 200 + 400 < 2 ^ 29) {j : Nat} (hj : j ≤ 100) : (¬ hours j σ 4 f = 0) ↔ (¬ untilS σ f < 0 ∧ ¬ nI j < untilS σ f) := by
  unfold untilS
  rcases fst_n (fun i => hours i σ 4 f) 101 0 with ⟨z, z2⟩ | ⟨v, h1, h2, h3, h4, h5⟩
  · rw [z]
    exact ⟨fun h => absurd (z2 j (by omega) (by omega)) h, fun h => absurd (by decide) h.1⟩
  · rw [h3]
    constructor
    · intro h
      refine ⟨Int32.not_lt.mpr (nI_pos' (by omega)), fun z => h (h5 j (by omega) ?_)⟩
      exact (nI_ltI (a := j) (b := v) (by omega) (by omega)).mp z
    · intro h
      have hv : v ≤ j := Nat.not_lt.mp (fun z => h.2 ((nI_ltI (a := j) (b := v) (by omega) (by omega)).mpr z))
      have := ru_monos hI hf v hB (j - v) (by omega) h4
      rw [show v + (j - v) = j by omega] at this
      exact this
-- what water comes to
theorem re_nat {n k j : Nat} {σ : Sg} (hst : Shp n k σ) (hj : j < n) : ∃ c, 1 ≤ c ∧ c ≤ n ∧ cN (cloM σ j) n = c ∧ reachS σ j = nI (c - 1) := by
  have hn := hst.1
  have h1 : (cloM σ j).testBit j = true := by
    unfold cloM
    have : ∀ t, (rnd σ (2 ^ j) t).testBit j = true := by
      intro t
      induction t with
      | zero => exact Nat.testBit_two_pow_self
      | succ t ih => exact pm_sub hst ih
    exact this _
  have h2 : 1 ≤ cN (cloM σ j) n := by
    have := cN_strict (p := 0) (q := cloM σ j) (fun i z => by rw [Nat.zero_testBit] at z; exact absurd z (by decide)) h1 (Nat.zero_testBit j) n hj
    omega
  refine ⟨_, h2, cN_le _ _, rfl, ?_⟩
  unfold reachS
  rw [cN_out (clo_lt hst hj) 10 hn]
  exact pk_sub (a := cN (cloM σ j) n) (b := 1) h2
theorem re_ge {n k j : Nat} {σ : Sg} (hst : Shp n k σ) (hj : j < n) : ¬ reachS σ j < 0 := by
  obtain ⟨c, h1, h2, -, e⟩ := re_nat hst hj
  have := hst.1
  exact nn_lt e (by omega)
theorem re_lt {n k j : Nat} {σ : Sg} (hst : Shp n k σ) (hj : j < n) : ¬ nI n ≤ reachS σ j := by
  obtain ⟨c, h1, h2, -, e⟩ := re_nat hst hj
  have := hst.1
  rw [e]
  exact nI_ge (by omega) (by omega)
/-- a set that a round leaves as it is and that holds the start holds all that is reached -/
theorem rnd_in {n k q : Nat} {σ : Sg} (hst : Shp n k σ) {w : Nat} (hq : ∀ i, q.testBit i = true → w.testBit i = true) (hw : ∀ d, d < k → stepM σ d w = w) (t : Nat) : ∀ i, (rnd σ q t).testBit i = true → w.testBit i = true := by
  have hstep : ∀ d, d < k → ∀ v, (∀ i, v.testBit i = true → w.testBit i = true) → ∀ i, (stepM σ d v).testBit i = true → w.testBit i = true := by
    intro d hd v hv i hi
    have hfw : ∀ a b u, (∀ i, u.testBit i = true → w.testBit i = true) → (u.testBit a = true → w.testBit b = true) → ∀ i, (fw a b u).testBit i = true → w.testBit i = true := by
      intro a b u hu hab i hi
      unfold fw at hi
      by_cases z : u.testBit a = true
      · rw [if_pos z, Nat.testBit_or] at hi
        cases hui : u.testBit i with
        | true => exact hu i hui
        | false =>
          rw [hui, Bool.false_or] at hi
          by_cases e : b = i
          · subst e; exact hab z
          · rw [Nat.testBit_two_pow_of_ne e] at hi; exact absurd hi (by decide)
      · rw [if_neg z] at hi; exact hu i hi
    have hwd := hw d hd
    unfold stepM at hi hwd
    by_cases h10 : σ 10 d = 0
    · rw [if_pos h10] at hi; exact hv i hi
    · rw [if_neg h10] at hi hwd
      by_cases h6 : σ 6 d = -1
      · rw [if_pos h6] at hi; exact hv i hi
      · rw [if_neg h6] at hi hwd
        have hset : ∀ a b, (fw a b w).testBit b = true ∨ ¬ w.testBit a = true := by
          intro a b
          by_cases z : w.testBit a = true
          · exact Or.inl (by rw [fw_t z, Nat.testBit_or, Nat.testBit_two_pow_self, Bool.or_true])
          · exact Or.inr z
        by_cases h9 : σ 9 d = 0
        · rw [if_pos h9] at hi hwd
          have e1 : w.testBit (σ 5 d).toNatClampNeg = true → w.testBit (σ 6 d).toNatClampNeg = true := fun z => by
            rcases hset (σ 5 d).toNatClampNeg (σ 6 d).toNatClampNeg with y | y
            · rw [← hwd]; exact fw_sub y
            · exact absurd z y
          have e2 : w.testBit (σ 6 d).toNatClampNeg = true → w.testBit (σ 5 d).toNatClampNeg = true := fun z => by
            rw [← hwd]
            have y : (fw (σ 5 d).toNatClampNeg (σ 6 d).toNatClampNeg w).testBit (σ 6 d).toNatClampNeg = true := fw_sub z
            rw [fw_t y, Nat.testBit_or, Nat.testBit_two_pow_self, Bool.or_true]
          have h1 := hfw _ _ v hv (fun z => e1 (hv _ z))
          exact hfw _ _ _ h1 (fun z => e2 (h1 _ z)) i hi
        · rw [if_neg h9] at hi hwd
          have e1 : w.testBit (σ 5 d).toNatClampNeg = true → w.testBit (σ 6 d).toNatClampNeg = true := fun z => by
            rcases hset (σ 5 d).toNatClampNeg (σ 6 d).toNatClampNeg with y | y
            · rw [← hwd]; exact y
            · exact absurd z y
          exact hfw _ _ v hv (fun z => e1 (hv _ z)) i hi
  induction t with
  | zero => exact hq
  | succ t ih =>
    intro i hi
    have hp : ∀ d, d ≤ k → ∀ i, (passN σ (rnd σ q t) d).testBit i = true → w.testBit i = true := by
      intro d
      induction d with
      | zero => intro _; exact ih
      | succ d ihd => intro hd; exact hstep d (by omega) _ (ihd (by omega))
    have hi2 : (passM σ (rnd σ q t)).testBit i = true := hi
    rw [← pN_k hst] at hi2
    exact hp k (Nat.le_refl _) i hi2
/-- what a round leaves as it is, each drain leaves as it is -/
theorem pass_each {n k w : Nat} {σ : Sg} (hst : Shp n k σ) (hw : w < 2 ^ n) (h : passM σ w = w) : ∀ d, d ≤ k → passN σ w d = w := by
  intro d hd
  rw [← pN_k hst] at h
  refine mask_eq (pn_lt hst hw d hd) hw (fun i hi => ?_)
  cases z : w.testBit i with
  | true => exact pn_sub hst z d hd
  | false =>
    cases y : (passN σ w d).testBit i with
    | false => rfl
    | true =>
      exfalso
      have up : ∀ x, d + x ≤ k → (passN σ w (d + x)).testBit i = true := by
        intro x
        induction x with
        | zero => intro _; exact y
        | succ x ih => intro hx; exact sm_sub (d := d + x) hst (show d + x < k by omega) (ih (by omega))
      have := up (k - d) (by omega)
      rw [show d + (k - d) = k by omega, h, z] at this
      exact absurd this (by decide)
theorem clo_step {n k j d : Nat} {σ : Sg} (hst : Shp n k σ) (hj : j < n) (hd : d < k) : stepM σ d (cloM σ j) = cloM σ j := by
  have hw := clo_lt hst hj
  have hfix : passM σ (cloM σ j) = cloM σ j := by
    unfold cloM
    rw [hst.eF]
    exact rn_fix hst hj
  have h1 := pass_each hst hw hfix d (by omega)
  have h2 := pass_each hst hw hfix (d + 1) (by omega)
  have h3 : passN σ (cloM σ j) (d + 1) = stepM σ d (passN σ (cloM σ j) d) := rfl
  rw [h1] at h3
  rw [← h3, h2]
theorem clo_self {n k j : Nat} {σ : Sg} (hst : Shp n k σ) : (cloM σ j).testBit j = true := by
  unfold cloM
  have : ∀ t, (rnd σ (2 ^ j) t).testBit j = true := by
    intro t
    induction t with
    | zero => exact Nat.testBit_two_pow_self
    | succ t ih => exact pm_sub hst ih
  exact this _
/-- from where water comes to b, it comes to all that b's comes to -/
theorem clo_in {n k a b : Nat} {σ : Sg} (hst : Shp n k σ) (ha : a < n) (hb : (cloM σ a).testBit b = true) : ∀ i, (cloM σ b).testBit i = true → (cloM σ a).testBit i = true := by
  refine rnd_in hst (fun i hi => ?_) (fun d hd => clo_step hst ha hd) _
  by_cases e : b = i
  · subst e; exact hb
  · rw [Nat.testBit_two_pow_of_ne e] at hi; exact absurd hi (by decide)
theorem clo_to {n k a b d : Nat} {σ : Sg} (hst : Shp n k σ) (hd : d < k) (h10 : ¬ σ 10 d = 0) (ha : a < n) (hb : b < n) (ea : σ 5 d = nI a) (eb : σ 6 d = nI b) : (cloM σ a).testBit b = true := by
  have hn := hst.1
  have h := clo_step hst ha hd
  have h6 : ¬ σ 6 d = -1 := by rw [eb]; exact nI_ne_m1 (by omega)
  have hs := clo_self (j := a) hst
  rw [← h]
  by_cases h9 : σ 9 d = 0
  · rw [sm_d h10 h6 h9 ea eb (by omega) (by omega)]
    exact fw_sub (by rw [fw_t hs, Nat.testBit_or, Nat.testBit_two_pow_self, Bool.or_true])
  · rw [sm_p h10 h6 h9 ea eb (by omega) (by omega), fw_t hs, Nat.testBit_or, Nat.testBit_two_pow_self, Bool.or_true]
theorem clo_fro {n k a b d : Nat} {σ : Sg} (hst : Shp n k σ) (hd : d < k) (h10 : ¬ σ 10 d = 0) (h9 : σ 9 d = 0) (ha : a < n) (hb : b < n) (ea : σ 5 d = nI a) (eb : σ 6 d = nI b) : (cloM σ b).testBit a = true := by
  have hn := hst.1
  have h := clo_step hst hb hd
  have h6 : ¬ σ 6 d = -1 := by rw [eb]; exact nI_ne_m1 (by omega)
  have hs : (fw a b (cloM σ b)).testBit b = true := fw_sub (clo_self (j := b) hst)
  rw [← h, sm_d h10 h6 h9 ea eb (by omega) (by omega), fw_t hs, Nat.testBit_or, Nat.testBit_two_pow_self, Bool.or_true]
theorem re_to {n k a b d : Nat} {σ : Sg} (hst : Shp n k σ) (hd : d < k) (h10 : ¬ σ 10 d = 0) (ha : a < n) (hb : b < n) (ea : σ 5 d = nI a) (eb : σ 6 d = nI b) : ¬ reachS σ a < reachS σ b := by
  have hn := hst.1
  obtain ⟨c, h1, h2, h3, e⟩ := re_nat hst ha
  obtain ⟨c', h1', h2', h3', e'⟩ := re_nat hst hb
  have := cN_mono (clo_in hst ha (clo_to hst hd h10 ha hb ea eb)) n
  rw [e, e']
  exact nI_nlt (by omega) (by omega)
theorem re_eq {n k a b d : Nat} {σ : Sg} (hst : Shp n k σ) (hd : d < k) (h10 : ¬ σ 10 d = 0) (h9 : σ 9 d = 0) (ha : a < n) (hb : b < n) (ea : σ 5 d = nI a) (eb : σ 6 d = nI b) : reachS σ a = reachS σ b := by
  obtain ⟨c, h1, h2, h3, e⟩ := re_nat hst ha
  obtain ⟨c', h1', h2', h3', e'⟩ := re_nat hst hb
  have x1 := cN_mono (clo_in hst ha (clo_to hst hd h10 ha hb ea eb)) n
  have x2 := cN_mono (clo_in hst hb (clo_fro hst hd h10 h9 ha hb ea eb)) n
  rw [e, e', show c = c' by omega]
theorem opens_pos {n k f d : Nat} {σ : Sg} (hst : Shp n k σ) (hd : d < k) (h : opB σ f d = 1) : ¬ openS σ f = 0 := by
  have hk := hst.2.1
  unfold openS
  rw [hst.eD]
  have hall : ∀ i, ∃ c, c ≤ i ∧ sumI (fun d => opB σ f d) i = nI c ∧ (d < i → 1 ≤ c) := by
    intro i
    induction i with
    | zero => exact ⟨0, by omega, rfl, fun z => absurd z (by omega)⟩
    | succ i ih =>
      obtain ⟨c, h1, h2, h3⟩ := ih
      have hb : opB σ f i = 0 ∨ opB σ f i = 1 := by
        unfold opB; split
        · exact Or.inl rfl
        · split
          · exact Or.inr rfl
          · split
            · exact Or.inr rfl
            · exact Or.inl rfl
      show ∃ c, c ≤ i + 1 ∧ sumI (fun d => opB σ f d) i + opB σ f i = nI c ∧ (d < i + 1 → 1 ≤ c)
      rcases hb with z | z
      · refine ⟨c, by omega, by rw [z, h2, Int32.add_zero], fun hdi => ?_⟩
        by_cases e : d = i
        · subst e; rw [h] at z; exact absurd z (by decide)
        · exact h3 (by omega)
      · exact ⟨c + 1, by omega, by rw [z, h2]; exact nI_add c 1, fun _ => by omega⟩
  obtain ⟨c, h1, h2, h3⟩ := hall k
  rw [h2]
  intro z
  have := (nI_eq (a := c) (b := 0) (by omega) (by omega)).mp z
  have := h3 hd
  omega
theorem re_pos {n k f : Nat} {σ : Sg} (hst : Shp n k σ) (hf : f < n) (h : ¬ reachS σ f ≤ 0) : ¬ openS σ f = 0 := by
  have hn := hst.1
  by_cases z : ∃ d, d < k ∧ opB σ f d = 1
  · obtain ⟨d, hd, e⟩ := z
    exact opens_pos hst hd e
  · exfalso
    apply h
    -- then nothing is reached
    have hs : ∀ d, d < k → stepM σ d (2 ^ f) = 2 ^ f := by
      intro d hd
      have h0 : ¬ opB σ f d = 1 := fun y => z ⟨d, hd, y⟩
      unfold opB at h0
      by_cases h10 : σ 10 d = 0
      · exact sm_0 h10
      · rw [if_neg h10] at h0
        by_cases h5 : σ 5 d = nI f
        · rw [if_pos h5] at h0; exact absurd rfl h0
        · rw [if_neg h5] at h0
          by_cases h6 : σ 6 d = nI f
          · rw [if_pos h6] at h0; exact absurd rfl h0
          · obtain ⟨a, ha, ea⟩ := hst.2.2.2.2.1 d hd
            have haf : (2 ^ f : Nat).testBit a = false := Nat.testBit_two_pow_of_ne (fun y => h5 (by rw [ea, y]))
            rcases hst.2.2.2.2.2 d hd with y | ⟨b, hb, eb⟩
            · exact sm_sea y.1
            · have h6' : ¬ σ 6 d = -1 := by rw [eb]; exact nI_ne_m1 (by omega)
              have hbf : (2 ^ f : Nat).testBit b = false := Nat.testBit_two_pow_of_ne (fun y => h6 (by rw [eb, y]))
              by_cases h9 : σ 9 d = 0
              · rw [sm_d h10 h6' h9 ea eb (by omega) (by omega), fw_f haf, fw_f hbf]
              · rw [sm_p h10 h6' h9 ea eb (by omega) (by omega), fw_f haf]
    have hin := rnd_in (q := 2 ^ f) hst (fun i hi => hi) hs (nF σ - 1)
    obtain ⟨c, h1, h2, h3, e⟩ := re_nat hst hf
    have x := cN_mono hin n
    have y : ∀ m, cN (2 ^ f) m ≤ 1 := by
      intro m
      have yy : ∀ m, cN (2 ^ f) m = if f < m then 1 else 0 := by
        intro m
        induction m with
        | zero => rfl
        | succ m ih =>
          show cN (2 ^ f) m + (if (2 ^ f).testBit m then 1 else 0) = _
          rw [ih]
          by_cases e : f = m
          · subst e; rw [if_neg (by omega), if_pos Nat.testBit_two_pow_self, if_pos (by omega)]
          · rw [Nat.testBit_two_pow_of_ne e, if_neg (show ¬ false = true by decide)]
            by_cases e2 : f < m
            · rw [if_pos e2, if_pos (by omega)]
            · rw [if_neg e2, if_neg (by omega)]
      rw [yy]; split <;> omega
    have := y n
    have hc : cN (rnd σ (2 ^ f) (nF σ - 1)) n = c := h3
    rw [e, show c - 1 = 0 by omega]
    exact Int32.le_refl _
