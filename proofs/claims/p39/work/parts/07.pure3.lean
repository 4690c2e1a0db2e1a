-- PURE: bounds that hold through hours
def Bnd (B : Nat) (σ : Sg) : Prop := (∀ f, f < 10 → ∃ w, w ≤ B ∧ σ 2 f = nI w) ∧ (∀ f, f < 10 → ∃ w, w ≤ 20 ∧ σ 0 f = nI w) ∧ (∀ d, d < 16 → ∃ w, w ≤ 9 ∧ σ 7 d = nI w) ∧ (∃ w, w ≤ 9 ∧ σ 11 2 = nI w) ∧ (∀ f, f < 10 → σ 4 f = 0 ∨ σ 4 f = 1) ∧ (∀ d, d < 16 → σ 9 d = 0 ∨ σ 9 d = 1) ∧ (∀ d, d < 16 → σ 10 d = 0 ∨ σ 10 d = 1)
theorem Bnd.mono {B C : Nat} {σ : Sg} (h : Bnd B σ) (hBC : B ≤ C) : Bnd C σ := ⟨fun f hf => by obtain ⟨w, h1, h2⟩ := h.1 f hf; exact ⟨w, by omega, h2⟩, h.2⟩
theorem Bnd.rows {B C : Nat} {σ τ : Sg} (h : Bnd B σ) (h2 : ∀ f, f < 10 → ∃ w, w ≤ C ∧ τ 2 f = nI w) (h0 : τ 0 = σ 0) (h7 : τ 7 = σ 7) (h11 : τ 11 2 = σ 11 2) (h4 : ∀ f, f < 10 → τ 4 f = 0 ∨ τ 4 f = 1) (h9 : τ 9 = σ 9) (h10 : τ 10 = σ 10) : Bnd C τ := by
  obtain ⟨-, a1, a2, a3, -, a5, a6⟩ := h
  unfold Bnd
  rw [h0, h7, h11, h9, h10]
  exact ⟨h2, a1, a2, a3, h4, a5, a6⟩
theorem i32_sub3 (a b c : Int32) : a - b - c = a - (b + c) := by
  rw [Int32.sub_eq_add_neg (a - b), Int32.sub_eq_add_neg a b, Int32.sub_eq_add_neg a (b + c), Int32.neg_add, Int32.sub_eq_add_neg (-b) c, Int32.add_assoc]
/-- what a drain carries is at most nine, and at most what there is -/
theorem flow_is {n k B j a : Nat} {σ : Sg} (hst : Shp n k σ) (hB : Bnd B σ) (hB2 : B < 2 ^ 29) (hj : j < k) (ha : a < n) (ea : σ 5 j = nI a) {wa : Nat} (ewa : σ 2 a = nI wa) :
    ∃ v, v ≤ 9 ∧ ((flow σ j = nI v ∧ v ≤ wa) ∨ (∃ b wb, b < n ∧ σ 6 j = nI b ∧ σ 2 b = nI wb ∧ wb ≤ B ∧ flow σ j = -nI v ∧ v ≤ wb)) := by
  have hn := hst.1
  have hk := hst.2.1
  obtain ⟨cc, hc1, hc2⟩ := hB.2.2.1 j (by omega)
  have hwa : wa % 2 ^ 32 ≤ B := by
    obtain ⟨w, h1, h2⟩ := hB.1 a (by omega)
    have : nI w = nI wa := h2.symm.trans ewa
    have h3 := congrArg (fun z => z.toBitVec.toNat) this
    simp only [nI] at h3
    simp at h3
    omega
  unfold flow
  rw [ea, nI_clamp (by omega)]
  unfold flA
  by_cases h10 : σ 10 j = 0
  · rw [if_pos h10]
    exact ⟨0, by omega, Or.inl ⟨rfl, by omega⟩⟩
  · rw [if_neg h10]
    obtain ⟨wa', hwa1, hwa2⟩ := hB.1 a (by omega)
    by_cases h9 : σ 9 j = 0
    · rw [if_neg (fun z => z h9)]
      obtain ⟨b, hb, eb⟩ : ∃ b, b < n ∧ σ 6 j = nI b := by
        rcases hst.2.2.2.2.2 j hj with q | q
        · exact absurd h9 q.2
        · exact q
      rw [eb, nI_clamp (by omega)]
      obtain ⟨wb, hwb1, hwb2⟩ := hB.1 b (by omega)
      obtain ⟨fa, hfa1, hfa2⟩ := hB.2.1 a (by omega)
      obtain ⟨fb, hfb1, hfb2⟩ := hB.2.1 b (by omega)
      unfold flH
      rw [i32_sub3, hfa2, hfb2, hwb2, hc2, hwa2, nI_add, nI_add]
      by_cases h0 : 0 ≤ (nI (fa + wa') - nI (fb + wb)) / 2
      · rw [if_pos h0]
        rcases Nat.lt_or_ge (fa + wa') (fb + wb) with q | q
        · rw [sub_nI (by omega), ndiv2 (by omega)] at h0 ⊢
          have := (le_neg (by omega)).mp h0
          rw [this, show -nI 0 = nI 0 from rfl, mn_nI (by omega) (by omega), mn_nI (by omega) (by omega)]
          exact ⟨0, by omega, Or.inl ⟨by rw [show min 0 (min cc wa') = 0 by omega], by omega⟩⟩
        · rw [pk_sub q, div2 (by omega), mn_nI (by omega) (by omega), mn_nI (by omega) (by omega)]
          refine ⟨_, ?_, Or.inl ⟨rfl, ?_⟩⟩
          · omega
          · have : wa' ≤ wa := by
              have h3 := congrArg (fun z => z.toBitVec.toNat) (hwa2.symm.trans ewa)
              simp only [nI] at h3
              simp at h3
              omega
            omega
      · rw [if_neg h0]
        rcases Nat.lt_or_ge (fa + wa') (fb + wb) with q | q
        · rw [sub_nI (by omega), ndiv2 (by omega), Int32.neg_neg, mn_nI (by omega) (by omega), mn_nI (by omega) (by omega)]
          exact ⟨_, by omega, Or.inr ⟨b, wb, hb, rfl, hwb2, hwb1, rfl, by omega⟩⟩
        · rw [pk_sub q, div2 (by omega)] at h0
          exact absurd (nI_pos' (by omega)) h0
    · rw [if_pos h9, hc2, hwa2, mn_nI (by omega) (by omega)]
      refine ⟨_, ?_, Or.inl ⟨rfl, ?_⟩⟩
      · omega
      · have : wa' ≤ wa := by
          have h3 := congrArg (fun z => z.toBitVec.toNat) (hwa2.symm.trans ewa)
          simp only [nI] at h3
          simp at h3
          omega
        omega
/-- the model's flow is the same -/
theorem flow_ref {n k B j a b : Nat} {σ : Sg} (hst : Shp n k σ) (hB : Bnd B σ) (hB2 : B < 2 ^ 29) (hj : j < k) (ha : a < n) (ea : σ 5 j = nI a) (hb : b < n) (eb : σ 6 j = nI b) (h10 : ¬ σ 10 j = 0) (h9 : σ 9 j = 0) :
    flow σ j = if 0 < (σ 0 a + σ 2 a) - (σ 0 b + σ 2 b) then mn (mn (σ 7 j) (ab ((σ 0 a + σ 2 a) - (σ 0 b + σ 2 b)) / 2)) (σ 2 a) else -mn (mn (σ 7 j) (ab ((σ 0 a + σ 2 a) - (σ 0 b + σ 2 b)) / 2)) (σ 2 b) := by
  have hn := hst.1
  have hk := hst.2.1
  obtain ⟨cc, hc1, hc2⟩ := hB.2.2.1 j (by omega)
  obtain ⟨wa, hwa1, hwa2⟩ := hB.1 a (by omega)
  obtain ⟨wb, hwb1, hwb2⟩ := hB.1 b (by omega)
  obtain ⟨fa, hfa1, hfa2⟩ := hB.2.1 a (by omega)
  obtain ⟨fb, hfb1, hfb2⟩ := hB.2.1 b (by omega)
  unfold flow
  rw [ea, eb, nI_clamp (by omega), nI_clamp (by omega)]
  unfold flA flH
  rw [if_neg h10, if_neg (fun z => z h9), i32_sub3, hfa2, hfb2, hwa2, hwb2, hc2, nI_add, nI_add]
  exact (flow_two (by omega) (by omega) (by omega) (by omega) (by omega)).symm
theorem Bnd.rain {B i : Nat} {σ : Sg} (hB : Bnd B σ) : Bnd (B + 9) (rainB i σ) := by
  obtain ⟨r, hr1, hr2⟩ := hB.2.2.2.1
  refine hB.rows (fun f hf => ?_) rfl rfl rfl hB.2.2.2.2.1 rfl rfl
  obtain ⟨w, h1, h2⟩ := hB.1 f hf
  by_cases e : f = i
  · subst e
    refine ⟨w + r, by omega, ?_⟩
    show upd (σ 2) f _ f = _
    rw [pk_us, h2, hr2, nI_add]
  · refine ⟨w, by omega, ?_⟩
    show upd (σ 2) i _ f = _
    rw [pk_un e, h2]
theorem Bnd.wet {B i : Nat} {σ : Sg} (hB : Bnd B σ) : Bnd B (wetB i σ) := by
  unfold wetB
  split
  · refine hB.rows hB.1 rfl rfl rfl (fun f hf => ?_) rfl rfl
    show upd (σ 4) i 1 f = 0 ∨ upd (σ 4) i 1 f = 1
    by_cases e : f = i
    · subst e
      rw [pk_us]
      exact Or.inr rfl
    · rw [pk_un e]
      exact hB.2.2.2.2.1 f hf
  · exact hB.rows hB.1 rfl rfl rfl hB.2.2.2.2.1 rfl rfl
theorem i32_nn (a b : Nat) : nI a + -(-nI b) = nI (a + b) := by rw [Int32.neg_neg, nI_add]
theorem i32_an {a b : Nat} (h : b ≤ a) : nI a + -nI b = nI (a - b) := by rw [← pk_sub h, Int32.sub_eq_add_neg]
theorem Bnd.carry {n k B i : Nat} {σ : Sg} (hst : Shp n k σ) (hB : Bnd B σ) (hB2 : B < 2 ^ 29) (hi : i < k) : Bnd (B + 9) (carryB i σ) := by
  have hn := hst.1
  obtain ⟨a, ha, ea⟩ := hst.2.2.2.2.1 i hi
  obtain ⟨wa, hwa1, hwa2⟩ := hB.1 a (by omega)
  obtain ⟨v, hv, hfl⟩ := flow_is hst hB hB2 hi ha ea hwa2
  unfold carryB letF
  rw [ea, nI_clamp (by omega)]
  -- the first field
  have h1 : ∃ w1, w1 ≤ B + 9 ∧ σ 2 a + -flow σ i = nI w1 ∧ (flow σ i = -nI v → v ≤ w1) ∧ (flow σ i = nI v → v ≤ 9 → w1 + v ≤ B + 9) := by
    rcases hfl with ⟨e, h⟩ | ⟨b, wb, -, -, -, -, e, h⟩
    · by_cases h0 : v = 0
      · subst h0
        exact ⟨wa, by omega, by rw [e, hwa2, i32_an (by omega), Nat.sub_zero], fun _ => by omega, fun _ _ => by omega⟩
      · refine ⟨wa - v, by omega, by rw [e, hwa2, i32_an h], fun q => ?_, fun _ _ => by omega⟩
        rw [e] at q
        have := congrArg Int32.toInt q
        rw [nI_toInt (by omega), neg_nI (by omega)] at this
        omega
    · refine ⟨wa + v, by omega, by rw [e, hwa2, i32_nn], fun _ => by omega, fun q _ => ?_⟩
      rw [e] at q
      have := congrArg Int32.toInt q
      rw [nI_toInt (by omega), neg_nI (by omega)] at this
      omega
  obtain ⟨w1, hw1, ew1, hneg, hpos⟩ := h1
  have hσ1 : ∀ f, f < 10 → ∃ w, w ≤ B + 9 ∧ addW σ a (-flow σ i) 2 f = nI w ∧ (f = a → w = w1) ∧ (¬ f = a → σ 2 f = nI w ∧ w ≤ B) := by
    intro f hf
    by_cases e : f = a
    · subst e
      exact ⟨w1, hw1, (pk_us (f := σ 2)).trans ew1, fun _ => rfl, fun q => absurd rfl q⟩
    · obtain ⟨w, g1, g2⟩ := hB.1 f hf
      exact ⟨w, by omega, (pk_un (f := σ 2) e).trans g2, fun q => absurd q e, fun _ => ⟨g2, g1⟩⟩
  by_cases h6 : σ 6 i = -1
  · rw [if_pos h6]
    refine hB.rows (fun f hf => ?_) rfl rfl rfl hB.2.2.2.2.1 rfl rfl
    obtain ⟨w, g1, g2, -, -⟩ := hσ1 f hf
    exact ⟨w, g1, g2⟩
  · rw [if_neg h6]
    obtain ⟨b, hb, eb⟩ : ∃ b, b < n ∧ σ 6 i = nI b := by
      rcases hst.2.2.2.2.2 i hi with q | q
      · exact absurd q.1 h6
      · exact q
    rw [eb, nI_clamp (by omega)]
    refine hB.rows (fun f hf => ?_) rfl rfl rfl hB.2.2.2.2.1 rfl rfl
    obtain ⟨w, g1, g2, g3, g4⟩ := hσ1 f hf
    show ∃ w, w ≤ B + 9 ∧ upd (addW σ a (-flow σ i) 2) b (addW σ a (-flow σ i) 2 b + flow σ i) f = nI w
    by_cases e : f = b
    · subst e
      rw [pk_us, g2]
      rcases hfl with ⟨e, h⟩ | ⟨b', wb, hb', eb', ewb, hwb, e, h⟩
      · rw [e, nI_add]
        refine ⟨w + v, ?_, rfl⟩
        by_cases q : f = a
        · rw [g3 q]; exact hpos e hv
        · have := (g4 q).2; omega
      · rw [e]
        have hbb : b' = f := (nI_eq (by omega) (by omega)).mp (eb'.symm.trans eb)
        subst hbb
        have hvw : v ≤ w := by
          by_cases q : b' = a
          · rw [g3 q]; exact hneg e
          · have q1 := (g4 q).1
            have : wb = w := (nI_eq (by omega) (by have := (g4 q).2; omega)).mp (ewb.symm.trans q1)
            omega
        rw [i32_an hvw]
        exact ⟨w - v, by omega, rfl⟩
    · rw [pk_un e]
      exact ⟨w, g1, g2⟩
theorem Bnd.h1 {n k B : Nat} {σ : Sg} (hst : Shp n k σ) (hB : Bnd B σ) (i : Nat) : Bnd (B + 9 * i) (it rainB i σ) := by
  induction i with
  | zero => exact hB
  | succ i ih => exact ih.rain.mono (by omega)
theorem Bnd.h2 {n k B : Nat} {σ : Sg} (hst : Shp n k σ) (hB : Bnd B σ) (hB2 : B + 200 < 2 ^ 29) (i : Nat) (hi : i ≤ k) : Bnd (B + 9 * i) (it carryB i σ) := by
  induction i with
  | zero => exact hB
  | succ i ih =>
    have := hst.2.1
    exact (Bnd.carry (hst.iter Shp.carry i) (ih (by omega)) (by omega) (by omega)).mono (by omega)
theorem Bnd.h3 {B : Nat} {σ : Sg} (hB : Bnd B σ) (i : Nat) : Bnd B (it wetB i σ) := by
  induction i with
  | zero => exact hB
  | succ i ih => exact ih.wet
theorem Bnd.hr1 {n k B : Nat} {σ : Sg} (hst : Shp n k σ) (hB : Bnd B σ) : Bnd (B + 90) (hour1 σ) := by
  unfold hour1
  rw [hst.eF]
  have := hst.1
  exact (hB.h1 hst n).mono (by omega)
theorem Bnd.hr2 {n k B : Nat} {σ : Sg} (hst : Shp n k σ) (hB : Bnd B σ) (hB2 : B + 400 < 2 ^ 29) : Bnd (B + 234) (hour2 σ) := by
  unfold hour2
  rw [hst.eD]
  have := hst.2.1
  exact (Bnd.h2 hst.h1 (hB.hr1 hst) (by omega) k (Nat.le_refl _)).mono (by omega)
theorem Bnd.hr {n k B : Nat} {σ : Sg} (hst : Shp n k σ) (hB : Bnd B σ) (hB2 : B + 400 < 2 ^ 29) : Bnd (B + 234) (hour σ) := by
  have h : Bnd (B + 234) (hour3 σ) := (Bnd.hr2 hst hB hB2).h3 _
  exact h.rows h.1 rfl rfl rfl h.2.2.2.2.1 rfl rfl
theorem Bnd.hrs {n k B : Nat} {σ : Sg} (hst : Shp n k σ) (hB : Bnd B σ) (t : Nat) (hB2 : B + 234 * t + 400 < 2 ^ 29) : Bnd (B + 234 * t) (hours t σ) := by
  induction t with
  | zero => exact hB
  | succ t ih => exact (Bnd.hr (hst.hrs t) (ih (by omega)) (by omega)).mono (by omega)
