-- PURE: what holds of a marsh at all times
def seaB (σ : Sg) (d : Nat) : Int32 := if σ 6 d = -1 then σ 8 d else 0
def Iv (n k B : Nat) (σ : Sg) : Prop := Shp n k σ ∧ Bnd B σ ∧ (∀ f, f < 10 → ∃ w, w ≤ 99 ∧ σ 1 f = nI w) ∧ (∀ f, f < n → σ 4 f = 0 → ∃ w, w ≤ 5 ∧ σ 3 f = nI w) ∧ (∀ f, n ≤ f → f < 10 → σ 2 f = 0 ∧ σ 3 f = 0 ∧ σ 4 f = 0) ∧ (∀ d, k ≤ d → d < 16 → σ 8 d = 0) ∧ σ 11 3 = sumI (seaB σ) k
theorem Iv.mono {n k B C : Nat} {σ : Sg} (h : Iv n k B σ) (hBC : B ≤ C) : Iv n k C σ := ⟨h.1, h.2.1.mono hBC, h.2.2⟩
theorem Iv.zero (B : Nat) : Iv 0 0 B S0 := ⟨⟨by decide, by decide, rfl, rfl, fun d hd => absurd hd (Nat.not_lt_zero d), fun d hd => absurd hd (Nat.not_lt_zero d)⟩, ⟨fun f _ => ⟨0, Nat.zero_le _, rfl⟩, fun f _ => ⟨0, Nat.zero_le _, rfl⟩, fun f _ => ⟨0, Nat.zero_le _, rfl⟩, ⟨0, Nat.zero_le _, rfl⟩, fun f _ => Or.inl rfl, fun f _ => Or.inl rfl, fun f _ => Or.inl rfl⟩, fun f _ => ⟨0, Nat.zero_le _, rfl⟩, fun f hf => absurd hf (Nat.not_lt_zero f), fun f _ _ => ⟨rfl, rfl, rfl⟩, fun d _ _ => rfl, rfl⟩
/-- only rows that the rest doesn't speak of have changed -/
theorem Iv.rows {n k B : Nat} {σ τ : Sg} (h : Iv n k B σ) (hs : Shp n k τ) (hb : Bnd B τ) (h1 : τ 1 = σ 1) (h2 : ∀ f, n ≤ f → f < 10 → τ 2 f = σ 2 f) (h3 : τ 3 = σ 3) (h4 : τ 4 = σ 4) (h6 : τ 6 = σ 6) (h8 : τ 8 = σ 8) (h11 : τ 11 3 = σ 11 3) : Iv n k B τ := by
  obtain ⟨a0, a1, a2, a3, a4, a5, a6⟩ := h
  refine ⟨hs, hb, by rw [h1]; exact a2, by rw [h3, h4]; exact a3, fun f hf hf2 => ?_, by rw [h8]; exact a5, ?_⟩
  · obtain ⟨b1, b2, b3⟩ := a4 f hf hf2
    rw [h2 f hf hf2, h3, h4]
    exact ⟨b1, b2, b3⟩
  · have e : seaB τ = seaB σ := by funext d; unfold seaB; rw [h6, h8]
    rw [h11, e]
    exact a6
theorem Iv.tu {n k B : Nat} {σ : Sg} (h : Iv n k B σ) (d : Nat) : Iv n k B (turnS σ d) := h.rows (h.1.tu d) (h.2.1.tu d) rfl (fun _ _ _ => rfl) rfl rfl rfl rfl rfl
theorem Iv.ra {n k B r : Nat} {σ : Sg} (h : Iv n k B σ) (hr : r ≤ 9) : Iv n k B (sc σ 2 (nI r)) := by
  refine h.rows (h.1.osc 2 _ (by decide) (by decide)) ?_ rfl (fun _ _ _ => rfl) rfl rfl rfl rfl rfl
  obtain ⟨b0, b1, b2, -, b4, b5, b6⟩ := h.2.1
  exact ⟨b0, b1, b2, ⟨r, hr, rfl⟩, b4, b5, b6⟩
theorem Bnd.fw {B m f : Nat} {σ : Sg} (h : Bnd B σ) (hm : m ≤ 50) : Bnd (B + 50) (addW σ f (nI m)) := by
  refine h.rows (fun g hg => ?_) rfl rfl rfl h.2.2.2.2.1 rfl rfl
  obtain ⟨w, h1, h2⟩ := h.1 g hg
  show ∃ w, w ≤ B + 50 ∧ upd (σ 2) f (σ 2 f + nI m) g = nI w
  by_cases e : g = f
  · subst e
    rw [pk_us, h2, nI_add]
    exact ⟨w + m, by omega, rfl⟩
  · rw [pk_un e, h2]
    exact ⟨w, by omega, rfl⟩
theorem Iv.fl {n k B m f : Nat} {σ : Sg} (h : Iv n k B σ) (hm : m ≤ 50) (hf : f < n) : Iv n k (B + 50) (addW σ f (nI m)) := by
  refine (h.mono (by omega : B ≤ B + 50)).rows (h.1.aw f _) (h.2.1.fw hm) rfl (fun g hg _ => ?_) rfl rfl rfl rfl rfl
  show upd (σ 2) f (σ 2 f + nI m) g = σ 2 g
  rw [pk_un (by omega)]
theorem sum_last {g f : Nat → Int32} {n : Nat} (h : ∀ i, i < n → f i = g i) (hn : f n = 0) : sumI f (n + 1) = sumI g n := by
  show sumI f n + f n = sumI g n
  rw [hn, Int32.add_zero]
  exact sum_eq h
theorem Iv.pF {n k B x y : Nat} {σ : Sg} (h : Iv n k B σ) (hn : n < 10) (hx : x ≤ 20) (hy : y ≤ 99) : Iv (n + 1) k B (putF n (nI x) (nI y) σ) := by
  obtain ⟨a0, a1, a2, a3, a4, a5, a6⟩ := h
  have hs := a0.pF (show ¬ n = 10 by omega) (nI x) (nI y)
  unfold putF at *
  rw [if_neg (by omega)] at *
  refine ⟨hs, ?_, fun f hf => ?_, fun f hf h4 => ?_, fun f hf hf2 => ?_, a5, a6⟩
  · obtain ⟨b0, b1, b2, b3, b4, b5, b6⟩ := a1
    refine ⟨b0, fun f hf => ?_, b2, b3, b4, b5, b6⟩
    show ∃ w, w ≤ 20 ∧ upd (σ 0) n (nI x) f = nI w
    by_cases e : f = n
    · subst e; rw [pk_us]; exact ⟨x, hx, rfl⟩
    · rw [pk_un e]; exact b1 f hf
  · show ∃ w, w ≤ 99 ∧ upd (σ 1) n (nI y) f = nI w
    by_cases e : f = n
    · subst e; rw [pk_us]; exact ⟨y, hy, rfl⟩
    · rw [pk_un e]; exact a2 f hf
  · by_cases e : f = n
    · subst e
      exact ⟨0, by omega, (a4 f (Nat.le_refl _) hn).2.1⟩
    · exact a3 f (by omega) h4
  · exact a4 f (by omega) hf2
theorem Iv.pD {n k B z : Nat} {x y b : Int32} {σ : Sg} (h : Iv n k B σ) (hk : k < 16) (hz : z ≤ 9) (hb : b = 0 ∨ b = 1) (hx : ∃ a, a < n ∧ x = nI a) (hy : (y = -1 ∧ ¬ b = 0) ∨ ∃ c, c < n ∧ y = nI c) : Iv n (k + 1) B (putD k x y (nI z) b σ) := by
  obtain ⟨a0, a1, a2, a3, a4, a5, a6⟩ := h
  have hs := a0.pD (show ¬ k = 16 by omega) (nI z) b hx hy
  unfold putD at *
  rw [if_neg (by omega)] at *
  refine ⟨hs, ?_, a2, a3, a4, fun d hd hd2 => a5 d (by omega) hd2, ?_⟩
  · obtain ⟨b0, b1, b2, b3, b4, b5, b6⟩ := a1
    refine ⟨b0, b1, fun d hd => ?_, b3, b4, fun d hd => ?_, fun d hd => ?_⟩
    · show ∃ w, w ≤ 9 ∧ upd (σ 7) k (nI z) d = nI w
      by_cases e : d = k
      · subst e; rw [pk_us]; exact ⟨z, hz, rfl⟩
      · rw [pk_un e]; exact b2 d hd
    · show upd (σ 9) k b d = 0 ∨ upd (σ 9) k b d = 1
      by_cases e : d = k
      · subst e; rw [pk_us]; exact hb
      · rw [pk_un e]; exact b5 d hd
    · show upd (σ 10) k 1 d = 0 ∨ upd (σ 10) k 1 d = 1
      by_cases e : d = k
      · subst e; rw [pk_us]; exact Or.inr rfl
      · rw [pk_un e]; exact b6 d hd
  · refine Eq.trans a6 (sum_last (fun d hd => ?_) ?_).symm
    · show (if upd (σ 6) k y d = -1 then σ 8 d else 0) = seaB σ d
      rw [pk_un (by omega)]
      rfl
    · show (if upd (σ 6) k y k = -1 then σ 8 k else 0) = 0
      rw [a5 k (Nat.le_refl _) hk]
      split <;> rfl
-- an hour
theorem carry_11 (i : Nat) (σ : Sg) : carryB i σ 11 3 = if σ 6 i = -1 then σ 11 3 + flow σ i else σ 11 3 := by
  unfold carryB letF
  rw [su_row _ _ _ (by decide)]
  by_cases h : σ 6 i = -1
  · rw [if_pos h, if_pos h]; rfl
  · rw [if_neg h, if_neg h]; rfl
theorem carry_8 (i : Nat) (σ : Sg) (d : Nat) : carryB i σ 8 d = if d = i then σ 8 i + ab (flow σ i) else σ 8 d := by
  unfold carryB letF
  by_cases e : d = i
  · subst e; rw [su_in, if_pos rfl]
  · rw [su_out _ _ _ e, if_neg e]
    split <;> rfl
/-- what leads to the sea carries forth -/
theorem flow_sea {n k B d : Nat} {σ : Sg} (hst : Shp n k σ) (hB : Bnd B σ) (hB2 : B < 2 ^ 29) (hd : d < k) (h6 : σ 6 d = -1) : ab (flow σ d) = flow σ d := by
  have hn := hst.1
  have hk := hst.2.1
  obtain ⟨a, ha, ea⟩ := hst.2.2.2.2.1 d hd
  obtain ⟨wa, hwa, ewa⟩ := hB.1 a (by omega)
  obtain ⟨v, hv, hfl⟩ := flow_is hst hB hB2 hd ha ea ewa
  rcases hfl with ⟨e, -⟩ | ⟨b, wb, hb, eb, -⟩
  · rw [e, ab_nI (by omega)]
  · exact absurd (h6.symm.trans eb).symm (nI_ne_m1 (by omega))
theorem sum_up {f g : Nat → Int32} {n i : Nat} {x : Int32} (hi : i < n) (h : ∀ d, d < n → ¬ d = i → g d = f d) (hx : g i = f i + x) : sumI g n = sumI f n + x := by
  induction n with
  | zero => exact absurd hi (by omega)
  | succ n ih =>
    show sumI g n + g n = sumI f n + f n + x
    by_cases e : i = n
    · subst e
      rw [hx, sum_eq (fun d hd => h d (by omega) (by omega)), Int32.add_assoc]
    · rw [ih (by omega) (fun d hd he => h d (by omega) he), h n (by omega) (fun z => e z.symm), Int32.add_assoc, Int32.add_assoc, Int32.add_comm x]
theorem sea_carry {n k B i : Nat} {σ : Sg} (hst : Shp n k σ) (hB : Bnd B σ) (hB2 : B < 2 ^ 29) (hi : i < k) (h : σ 11 3 = sumI (seaB σ) k) : carryB i σ 11 3 = sumI (seaB (carryB i σ)) k := by
  have e6 : carryB i σ 6 = σ 6 := carry_row i σ (by decide) (by decide) (by decide)
  rw [carry_11]
  by_cases h6 : σ 6 i = -1
  · rw [if_pos h6, h]
    refine (sum_up hi (fun d hd he => ?_) ?_).symm
    · unfold seaB; rw [e6, carry_8, if_neg he]
    · unfold seaB; rw [e6, if_pos h6, if_pos h6, carry_8, if_pos rfl, flow_sea hst hB hB2 hi h6]
  · rw [if_neg h6, h]
    refine sum_eq (fun d hd => ?_)
    unfold seaB
    rw [e6, carry_8]
    by_cases he : d = i
    · subst he; rw [if_neg h6, if_neg h6]
    · rw [if_neg he]
theorem sea_it {n k B : Nat} {σ : Sg} (hst : Shp n k σ) (hB : Bnd B σ) (hB2 : B + 200 < 2 ^ 29) (h : σ 11 3 = sumI (seaB σ) k) (i : Nat) (hi : i ≤ k) : it carryB i σ 11 3 = sumI (seaB (it carryB i σ)) k := by
  induction i with
  | zero => exact h
  | succ i ih =>
    have := hst.2.1
    exact sea_carry (hst.iter Shp.carry i) (Bnd.h2 hst hB hB2 i (by omega)) (by omega) (by omega) (ih (by omega))
theorem rain_11 (m : Nat) (σ : Sg) : it rainB m σ 11 = σ 11 := irain_row m σ (by decide)
theorem rain_2 (m : Nat) (σ : Sg) (f : Nat) (h : m ≤ f) : it rainB m σ 2 f = σ 2 f := by
  induction m with
  | zero => rfl
  | succ m ih =>
    show upd (it rainB m σ 2) m _ f = _
    rw [pk_un (by omega)]
    exact ih (by omega)
theorem carry_2 {n k i f : Nat} {σ : Sg} (hst : Shp n k σ) (hi : i < k) (hf : n ≤ f) : carryB i σ 2 f = σ 2 f := by
  have hn := hst.1
  obtain ⟨a, ha, ea⟩ := hst.2.2.2.2.1 i hi
  rcases hst.2.2.2.2.2 i hi with z | ⟨b, hb, eb⟩
  · unfold carryB
    rw [letF_sea _ z.1 ea (by omega), su_row _ _ _ (by decide), sc_row _ _ _ (by decide)]
    exact su_out _ _ _ (by omega)
  · unfold carryB
    rw [letF_fld _ eb ea (by omega) (by omega), su_row _ _ _ (by decide)]
    exact (su_out _ _ _ (by omega)).trans (su_out _ _ _ (by omega))
theorem icarry_2 {n k f : Nat} {σ : Sg} (hst : Shp n k σ) (hf : n ≤ f) (i : Nat) (hi : i ≤ k) : it carryB i σ 2 f = σ 2 f := by
  induction i with
  | zero => rfl
  | succ i ih => exact (carry_2 (hst.iter Shp.carry i) (by omega) hf).trans (ih (by omega))
theorem icarry_8 {k d : Nat} {σ : Sg} (hd : k ≤ d) (i : Nat) (hi : i ≤ k) : it carryB i σ 8 d = σ 8 d := by
  induction i with
  | zero => rfl
  | succ i ih =>
    show carryB i (it carryB i σ) 8 d = _
    rw [carry_8, if_neg (by omega)]
    exact ih (by omega)
theorem iwet_row (m : Nat) (σ : Sg) {r : Nat} (h3 : ¬ r = 3) (h4 : ¬ r = 4) : it wetB m σ r = σ r := by
  induction m with
  | zero => rfl
  | succ m ih =>
    show wetB m (it wetB m σ) r = _
    unfold wetB
    split
    · rw [su_row _ _ _ h4, su_row _ _ _ h3]; exact ih
    · rw [su_row _ _ _ h3]; exact ih
theorem hour_row (σ : Sg) {r : Nat} (h2 : ¬ r = 2) (h3 : ¬ r = 3) (h4 : ¬ r = 4) (h8 : ¬ r = 8) (h11 : ¬ r = 11) : hour σ r = σ r := by
  unfold hour
  rw [sc_row _ _ _ h11]
  unfold hour3
  rw [iwet_row _ _ h3 h4, h2_row σ h2 h8 h11]
theorem hour_28 (σ : Sg) {r : Nat} (h3 : ¬ r = 3) (h4 : ¬ r = 4) (h11 : ¬ r = 11) : hour σ r = hour2 σ r := by
  unfold hour
  rw [sc_row _ _ _ h11]
  unfold hour3
  rw [iwet_row _ _ h3 h4]
theorem hour_sea (σ : Sg) : hour σ 11 3 = hour2 σ 11 3 := by
  show hour3 σ 11 3 = _
  unfold hour3
  rw [iwet_row _ _ (by decide) (by decide)]
theorem wv_or {υ : Sg} {f w : Nat} (h : υ 3 f = nI w) : wv υ f = 0 ∨ wv υ f = nI (w + 1) := by
  unfold wv
  split
  · rw [h]; exact Or.inr (nI_add w 1)
  · exact Or.inl rfl
theorem Iv.hr {n k B : Nat} {σ : Sg} (h : Iv n k B σ) (hB2 : B + 400 < 2 ^ 29) : Iv n k (B + 234) (hour σ) := by
  have h0 := h
  obtain ⟨a0, a1, a2, a3, a4, a5, a6⟩ := h
  have hn := a0.1
  have hk := a0.2.1
  refine ⟨a0.hr, Bnd.hr a0 a1 hB2, ?_, fun f hf h4 => ?_, fun f hf hf2 => ?_, fun d hd hd2 => ?_, ?_⟩
  · rw [hour_row σ (by decide) (by decide) (by decide) (by decide) (by decide)]; exact a2
  · rw [hour_4 a0 hf] at h4
    rw [hour_3 a0 hf]
    by_cases h6 : 6 ≤ wv (hour2 σ) f
    · rw [if_pos h6] at h4; exact absurd h4 (by decide)
    · rw [if_neg h6] at h4
      obtain ⟨w, hw, ew⟩ := a3 f hf h4
      rcases wv_or (υ := hour2 σ) (f := f) (w := w) (by rw [h2_row σ (by decide) (by decide) (by decide)]; exact ew) with z | z
      · exact ⟨0, by omega, z⟩
      · refine ⟨w + 1, ?_, z⟩
        rw [z] at h6
        by_cases h7 : w + 1 ≤ 5
        · exact h7
        · exact absurd ((nI_leI (a := 6) (b := w + 1) (by omega) (by omega)).mpr (by omega)) h6
  · obtain ⟨b1, b2, b3⟩ := a4 f hf hf2
    refine ⟨?_, ?_, ?_⟩
    · rw [hour_28 σ (by decide) (by decide) (by decide)]
      unfold hour2 hour1
      rw [a0.eF, a0.eD, icarry_2 (a0.iter Shp.rain n) hf k (Nat.le_refl _), rain_2 n σ f hf]
      exact b1
    · show hour3 σ 3 f = 0
      unfold hour3
      rw [a0.eF, iw_3, if_neg (by omega), h2_row σ (by decide) (by decide) (by decide)]
      exact b2
    · show hour3 σ 4 f = 0
      unfold hour3
      rw [a0.eF, iw_4, if_neg (fun z => by omega), h2_row σ (by decide) (by decide) (by decide)]
      exact b3
  · rw [hour_28 σ (by decide) (by decide) (by decide)]
    unfold hour2 hour1
    rw [a0.eF, a0.eD, icarry_8 hd k (Nat.le_refl _), irain_row _ _ (by decide)]
    exact a5 d hd hd2
  · have e : seaB (hour σ) = seaB (hour2 σ) := by
      funext d; unfold seaB
      rw [hour_28 σ (r := 6) (by decide) (by decide) (by decide), hour_28 σ (r := 8) (by decide) (by decide) (by decide)]
    rw [hour_sea, e]
    unfold hour2
    rw [a0.eD]
    refine sea_it a0.h1 (Bnd.hr1 a0 a1) (by omega) ?_ k (Nat.le_refl _)
    unfold hour1
    rw [rain_11]
    have e2 : seaB (it rainB (nF σ) σ) = seaB σ := by
      funext d; unfold seaB
      rw [irain_row _ _ (r := 6) (by decide), irain_row _ _ (r := 8) (by decide)]
    rw [e2]
    exact a6
theorem Iv.hrs {n k B : Nat} {σ : Sg} (h : Iv n k B σ) (t : Nat) (hB2 : B + 234 * t + 400 < 2 ^ 29) : Iv n k (B + 234 * t) (hours t σ) := by
  induction t with
  | zero => exact h
  | succ t ih => exact (Iv.hr (ih (by omega)) (by omega)).mono (by omega)
