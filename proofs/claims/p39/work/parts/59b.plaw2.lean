-- PURE: what the law asks: drains, what is best, an hour
theorem fl_nat {n k B d : Nat} {σ : Sg} (hst : Shp n k σ) (hB : Bnd B σ) (hB2 : B < 2 ^ 28) (hd : d < k) : ∃ v c, v ≤ c ∧ c ≤ 9 ∧ ab (flow σ d) = nI v ∧ σ 7 d = nI c ∧ (σ 10 d = 0 → v = 0) ∧ (σ 9 d = 0 → ∃ a b la lb, a < n ∧ b < n ∧ σ 5 d = nI a ∧ σ 6 d = nI b ∧ la < 2 ^ 30 ∧ lb < 2 ^ 30 ∧ σ 0 a + σ 2 a = nI la ∧ σ 0 b + σ 2 b = nI lb ∧ 2 * v ≤ (la - lb) + (lb - la)) := by
  have hn := hst.1
  have hk := hst.2.1
  obtain ⟨a, ha, ea⟩ := hst.2.2.2.2.1 d hd
  obtain ⟨c, hc, ec⟩ := hB.2.2.1 d (by omega)
  obtain ⟨wa, hwa, ewa⟩ := hB.1 a (by omega)
  obtain ⟨fa, hfa, efa⟩ := hB.2.1 a (by omega)
  have ela : σ 0 a + σ 2 a = nI (fa + wa) := by rw [efa, ewa, nI_add]
  by_cases h9 : σ 9 d = 0
  · obtain ⟨b, hb, eb⟩ : ∃ b, b < n ∧ σ 6 d = nI b := by
      rcases hst.2.2.2.2.2 d hd with z | z
      · exact absurd h9 z.2
      · exact z
    obtain ⟨wb, hwb, ewb⟩ := hB.1 b (by omega)
    obtain ⟨fb, hfb, efb⟩ := hB.2.1 b (by omega)
    have elb : σ 0 b + σ 2 b = nI (fb + wb) := by rw [efb, ewb, nI_add]
    by_cases h10 : σ 10 d = 0
    · exact ⟨0, c, by omega, hc, by rw [flow_shut h10]; rfl, ec, fun _ => rfl, fun _ => ⟨a, b, fa + wa, fb + wb, ha, hb, ea, eb, by omega, by omega, ela, elb, by omega⟩⟩
    · rcases Nat.lt_or_ge (fa + wa) (fb + wb) with hl | hg
      · exact ⟨_, c, (by omega : min (min c ((fb + wb - (fa + wa)) / 2)) wb ≤ c), hc, by rw [flow_lt h10 h9 ea eb (by omega) (by omega) ela elb ewb ewa ec (by omega) (by omega) (by omega) (by omega) hl, ab_neg (by omega)], ec, fun z => absurd z h10, fun _ => ⟨a, b, fa + wa, fb + wb, ha, hb, ea, eb, by omega, by omega, ela, elb, by omega⟩⟩
      · exact ⟨_, c, (by omega : min (min c ((fa + wa - (fb + wb)) / 2)) wa ≤ c), hc, by rw [flow_ge h10 h9 ea eb (by omega) (by omega) ela elb ewa ec (by omega) (by omega) (by omega) hg, ab_nI (by omega)], ec, fun z => absurd z h10, fun _ => ⟨a, b, fa + wa, fb + wb, ha, hb, ea, eb, by omega, by omega, ela, elb, by omega⟩⟩
  · by_cases h10 : σ 10 d = 0
    · exact ⟨0, c, by omega, hc, by rw [flow_shut h10]; rfl, ec, fun _ => rfl, fun z => absurd z h9⟩
    · exact ⟨_, c, (by omega : min c wa ≤ c), hc, by rw [flow_pump h10 h9 ea (by omega) ewa ec (by omega) (by omega), ab_nI (by omega)], ec, fun z => absurd z h10, fun z => absurd z h9⟩
theorem fl_ge0 {n k B d : Nat} {σ : Sg} (hst : Shp n k σ) (hB : Bnd B σ) (hB2 : B < 2 ^ 28) (hd : d < k) : ¬ ab (flow σ d) < 0 := by
  obtain ⟨v, c, h1, h2, h3, -⟩ := fl_nat hst hB hB2 hd
  exact nn_lt h3 (by omega)
theorem fl_most {n k B d : Nat} {σ : Sg} (hst : Shp n k σ) (hB : Bnd B σ) (hB2 : B < 2 ^ 28) (hd : d < k) : ¬ σ 7 d < ab (flow σ d) := by
  obtain ⟨v, c, h1, h2, h3, h4, -⟩ := fl_nat hst hB hB2 hd
  rw [h3, h4]
  exact nI_nlt h1 (by omega)
theorem fl_shut {n k B d : Nat} {σ : Sg} (hst : Shp n k σ) (hB : Bnd B σ) (hB2 : B < 2 ^ 28) (hd : d < k) (h : σ 10 d = 0) : ab (flow σ d) ≤ 0 := by
  obtain ⟨v, c, h1, h2, h3, h4, h5, -⟩ := fl_nat hst hB hB2 hd
  rw [h3, h5 h]
  exact Int32.le_refl _
theorem fl_half {n k B d : Nat} {σ : Sg} (hst : Shp n k σ) (hB : Bnd B σ) (hB2 : B < 2 ^ 28) (hd : d < k) (h9 : σ 9 d = 0) {a b : Nat} (ha : a < n) (hb : b < n) (ea : σ 5 d = nI a) (eb : σ 6 d = nI b) : 2 * ab (flow σ d) ≤ ab ((σ 0 a + σ 2 a) - (σ 0 b + σ 2 b)) := by
  have hn := hst.1
  obtain ⟨v, c, h1, h2, h3, h4, h5, h6⟩ := fl_nat hst hB hB2 hd
  obtain ⟨a', b', la, lb, ha', hb', ea', eb', hla, hlb, ela, elb, hv⟩ := h6 h9
  have e1 : a' = a := (nI_eq (by omega) (by omega)).mp (ea'.symm.trans ea)
  have e2 : b' = b := (nI_eq (by omega) (by omega)).mp (eb'.symm.trans eb)
  subst e1; subst e2
  rw [h3, ela, elb, two_nI]
  rcases Nat.lt_or_ge la lb with hl | hg
  · rw [sub_nI (Nat.le_of_lt hl), ab_neg (by omega)]
    exact (nI_leI (by omega) (by omega)).mpr (by omega)
  · rw [pk_sub hg, ab_nI (by omega)]
    exact (nI_leI (by omega) (by omega)).mpr (by omega)
theorem seaB_1 {n k d : Nat} {σ : Sg} (hst : Shp n k σ) (hd : d < k) (h : 0 ≤ σ 6 d) : seaB σ d = 0 := by
  unfold seaB
  rw [if_neg (fun z => by rw [z] at h; exact absurd h (by decide))]
theorem seaB_2 {n k d : Nat} {σ : Sg} (hst : Shp n k σ) (hd : d < k) (h : ¬ 0 ≤ σ 6 d) : seaB σ d = σ 8 d := by
  have hn := hst.1
  unfold seaB
  rcases hst.2.2.2.2.2 d hd with z | ⟨b, hb, eb⟩
  · rw [if_pos z.1]
  · exact absurd (by rw [eb]; exact nI_pos' (by omega)) h
-- what is lost
def lsB (σ : Sg) (f : Nat) : Int32 := if σ 4 f = 0 then 0 else σ 1 f
theorem lost_nat {n k B : Nat} {σ : Sg} (hI : Iv n k B σ) : ∀ i, i ≤ n → ∃ c, c ≤ 99 * i ∧ sumI (lsB σ) i = nI c := by
  intro i
  induction i with
  | zero => intro _; exact ⟨0, by omega, rfl⟩
  | succ i ih =>
    intro hi
    have hn := hI.1.1
    obtain ⟨c, h1, h2⟩ := ih (by omega)
    obtain ⟨w, h3, h4⟩ := hI.2.2.1 i (by omega)
    show ∃ c, c ≤ 99 * (i + 1) ∧ sumI (lsB σ) i + lsB σ i = nI c
    unfold lsB
    by_cases z : σ 4 i = 0
    · rw [if_pos z, Int32.add_zero]; exact ⟨c, by omega, h2⟩
    · rw [if_neg z, h4]
      have e : sumI (fun f => if σ 4 f = 0 then 0 else σ 1 f) i = nI c := h2
      rw [e, nI_add]; exact ⟨c + w, by omega, rfl⟩
theorem lost_le {n k B C : Nat} {σ τ : Sg} (hI : Iv n k B σ) (hJ : Iv n k C τ) (h1 : τ 1 = σ 1) (h4 : ∀ f, f < n → ¬ σ 4 f = 0 → ¬ τ 4 f = 0) : lost σ ≤ lost τ := by
  have hn := hI.1.1
  have hall : ∀ i, i ≤ n → ∃ c c', c ≤ c' ∧ c' ≤ 99 * i ∧ sumI (lsB σ) i = nI c ∧ sumI (lsB τ) i = nI c' := by
    intro i
    induction i with
    | zero => intro _; exact ⟨0, 0, by omega, by omega, rfl, rfl⟩
    | succ i ih =>
      intro hi
      obtain ⟨c, c', g1, g2, g3, g4⟩ := ih (by omega)
      obtain ⟨w, g5, g6⟩ := hI.2.2.1 i (by omega)
      show ∃ c c', c ≤ c' ∧ c' ≤ 99 * (i + 1) ∧ sumI (lsB σ) i + lsB σ i = nI c ∧ sumI (lsB τ) i + lsB τ i = nI c'
      rw [g3, g4]
      unfold lsB
      rw [h1, g6]
      by_cases z : σ 4 i = 0
      · rw [if_pos z, Int32.add_zero]
        by_cases y : τ 4 i = 0
        · rw [if_pos y, Int32.add_zero]; exact ⟨c, c', g1, by omega, rfl, rfl⟩
        · rw [if_neg y]; exact ⟨c, c' + w, by omega, by omega, rfl, nI_add _ _⟩
      · rw [if_neg z, if_neg (h4 i (by omega) z)]
        exact ⟨c + w, c' + w, by omega, by omega, nI_add _ _, nI_add _ _⟩
  obtain ⟨c, c', g1, g2, g3, g4⟩ := hall n (Nat.le_refl _)
  have e1 : lost σ = nI c := by unfold lost; rw [hI.1.eF]; exact g3
  have e2 : lost τ = nI c' := by unfold lost; rw [hJ.1.eF]; exact g4
  rw [e1, e2]
  exact (nI_leI (by omega) (by omega)).mpr g1
theorem hours_1 (t : Nat) (σ : Sg) : hours t σ 1 = σ 1 := by
  induction t with
  | zero => rfl
  | succ t ih => exact (hour_row _ (by decide) (by decide) (by decide) (by decide) (by decide)).trans ih
theorem loss_24 {n k B : Nat} {σ : Sg} (hI : Iv n k B σ) (hB : B + 234 * 200 + 400 < 2 ^ 29) : lost σ ≤ lossH 24 σ := by
  refine lost_le hI (hI.hrs 24 (by omega)) (hours_1 24 σ) (fun f hf h => ?_)
  have := ru_monos hI hf 0 hB 24 (by omega) h
  rw [Nat.zero_add] at this
  exact this
-- what is best
theorem amin_is (g : Nat → Int32) (z : Int32) : ∀ n, ((amin g z n).1 = -1 ∧ (amin g z n).2 = z) ∨ ∃ j, j < n ∧ (amin g z n).1 = nI j ∧ g j < z ∧ (amin g z n).2 = g j := by
  intro n
  induction n with
  | zero => exact Or.inl ⟨rfl, rfl⟩
  | succ n ih =>
    show ((if g n < (amin g z n).2 then (nI n, g n) else amin g z n).1 = -1 ∧ (if g n < (amin g z n).2 then (nI n, g n) else amin g z n).2 = z) ∨ ∃ j, j < n + 1 ∧ (if g n < (amin g z n).2 then (nI n, g n) else amin g z n).1 = nI j ∧ g j < z ∧ (if g n < (amin g z n).2 then (nI n, g n) else amin g z n).2 = g j
    by_cases h : g n < (amin g z n).2
    · rw [if_pos h]
      refine Or.inr ⟨n, by omega, rfl, ?_, rfl⟩
      rcases ih with ⟨y, y2⟩ | ⟨j, h1, h2, h3, h4⟩
      · rw [y2] at h; exact h
      · rw [h4] at h; exact Int32.lt_trans h h3
    · rw [if_neg h]
      rcases ih with y | ⟨j, h1, h2, h3, h4⟩
      · exact Or.inl y
      · exact Or.inr ⟨j, by omega, h2, h3, h4⟩
theorem turn_is {n k : Nat} {σ : Sg} (hst : Shp n k σ) : turnB σ = -1 ∨ ∃ j, j < k ∧ turnB σ = nI j ∧ lossH 24 (turnS σ j) < lossH 24 σ := by
  unfold turnB
  rw [hst.eD]
  rcases amin_is (fun d => lossH 24 (turnS σ d)) (lossH 24 σ) k with y | ⟨j, h1, h2, h3, -⟩
  · exact Or.inl y.1
  · exact Or.inr ⟨j, h1, h2, h3⟩
theorem aminF_is (g : Nat → Int32) : ∀ n, n < 2 ^ 30 → 0 < n → ∃ j, j < n ∧ (aminF g n).1 = nI j ∧ (aminF g n).2 = g j ∧ ∀ i, i < n → g j ≤ g i ∧ (g i = g j → j ≤ i) := by
  intro n
  induction n with
  | zero => intro _ h; exact absurd h (by omega)
  | succ n ih =>
    intro hn _
    show ∃ j, j < n + 1 ∧ (if (aminF g n).1 = -1 then (nI n, g n) else if g n < (aminF g n).2 then (nI n, g n) else aminF g n).1 = nI j ∧ (if (aminF g n).1 = -1 then (nI n, g n) else if g n < (aminF g n).2 then (nI n, g n) else aminF g n).2 = g j ∧ ∀ i, i < n + 1 → g j ≤ g i ∧ (g i = g j → j ≤ i)
    by_cases h0 : n = 0
    · subst h0
      exact ⟨0, by omega, rfl, rfl, fun i hi => by rw [show i = 0 by omega]; exact ⟨Int32.le_refl _, fun _ => by omega⟩⟩
    · obtain ⟨j, h1, h2, h3, h4⟩ := ih (by omega) (by omega)
      rw [h2, h3, if_neg (nI_ne_m1 (by omega))]
      by_cases h : g n < g j
      · rw [if_pos h]
        refine ⟨n, by omega, rfl, rfl, fun i hi => ?_⟩
        by_cases e : i = n
        · subst e; exact ⟨Int32.le_refl _, fun _ => by omega⟩
        · have hi2 := (h4 i (by omega)).1
          refine ⟨Int32.le_trans (Int32.le_of_lt h) hi2, fun y => ?_⟩
          rw [y] at hi2
          exact absurd h (Int32.not_lt.mpr hi2)
      · rw [if_neg h]
        refine ⟨j, by omega, h2, h3, fun i hi => ?_⟩
        by_cases e : i = n
        · subst e; exact ⟨Int32.not_lt.mp h, fun _ => by omega⟩
        · exact h4 i (by omega)
theorem flood_is {n k : Nat} {σ : Sg} (hst : Shp n k σ) (hn : 2 ≤ n) (x : Int32) : ∃ j, j < n ∧ floodB σ x = nI j ∧ ∀ i, i < n → lossH 24 (addW σ j x) ≤ lossH 24 (addW σ i x) ∧ (lossH 24 (addW σ i x) = lossH 24 (addW σ j x) → j ≤ i) := by
  have := hst.1
  unfold floodB
  rw [hst.eF]
  obtain ⟨j, h1, h2, -, h4⟩ := aminF_is (fun f => lossH 24 (addW σ f x)) n (by omega) (by omega)
  exact ⟨j, h1, h2, h4⟩
theorem last_is (g : Nat → Int32) (L : Int32) : ∀ n, (lastI g L n = -1 ∧ ∀ i, i < n → ¬ g i = L) ∨ ∃ j, j < n ∧ lastI g L n = nI j ∧ g j = L := by
  intro n
  induction n with
  | zero => exact Or.inl ⟨rfl, fun i hi => absurd hi (by omega)⟩
  | succ n ih =>
    show ((if g n = L then nI n else lastI g L n) = -1 ∧ _) ∨ ∃ j, j < n + 1 ∧ (if g n = L then nI n else lastI g L n) = nI j ∧ g j = L
    by_cases h : g n = L
    · rw [if_pos h]; exact Or.inr ⟨n, by omega, rfl, h⟩
    · rw [if_neg h]
      rcases ih with ⟨y, y2⟩ | ⟨j, h1, h2, h3⟩
      · refine Or.inl ⟨y, fun i hi => ?_⟩
        by_cases e : i = n
        · subst e; exact h
        · exact y2 i (by omega)
      · exact Or.inr ⟨j, by omega, h2, h3⟩
theorem borne_is (σ : Sg) : (borneS σ = -1 ∧ ¬ lossH 24 (sc σ 2 (nI 0)) = lost σ) ∨ ∃ j, j ≤ 9 ∧ borneS σ = nI j ∧ lossH 24 (sc σ 2 (nI j)) = lost σ := by
  unfold borneS
  rcases last_is (fun i => lossH 24 (rainS σ i)) (lost σ) 10 with ⟨y, y2⟩ | ⟨j, h1, h2, h3⟩
  · exact Or.inl ⟨y, y2 0 (by omega)⟩
  · exact Or.inr ⟨j, by omega, h2, h3⟩
-- an hour: what falls and is carried
theorem su_sum {g : Nat → Int32} {n i : Nat} (hi : i < n) (x : Int32) : sumI (upd g i (g i + x)) n = sumI g n + x := sum_up hi (fun d _ he => pk_un he) (by rw [pk_us])
def w2 (σ : Sg) (n : Nat) : Int32 := sumI (fun f => σ 2 f) n
theorem addW_sum (σ : Sg) {n f : Nat} (hf : f < n) (x : Int32) : w2 (addW σ f x) n = w2 σ n + x := by
  unfold w2
  exact su_sum (g := σ 2) hf x
theorem rain_sum (σ : Sg) (n : Nat) : ∀ i, i ≤ n → w2 (it rainB i σ) n = w2 σ n + nI i * σ 11 2 := by
  intro i
  induction i with
  | zero => intro _; rw [show nI 0 = 0 from rfl, Int32.zero_mul, Int32.add_zero]; rfl
  | succ i ih =>
    intro hi
    have h : w2 (rainB i (it rainB i σ)) n = w2 (it rainB i σ) n + it rainB i σ 11 2 := by
      unfold w2
      exact su_sum (g := it rainB i σ 2) (by omega) _
    show w2 (rainB i (it rainB i σ)) n = _
    rw [h, ih (by omega), rain_11, Int32.add_assoc, ← nI_add, Int32.add_mul]
    congr 2
    exact (Int32.one_mul _).symm
theorem carry_sum {n k i : Nat} {σ : Sg} (hst : Shp n k σ) (hi : i < k) : w2 (carryB i σ) n + carryB i σ 11 3 = w2 σ n + σ 11 3 := by
  have hn := hst.1
  obtain ⟨a, ha, ea⟩ := hst.2.2.2.2.1 i hi
  rw [carry_11]
  rcases hst.2.2.2.2.2 i hi with z | ⟨b, hb, eb⟩
  · have e : w2 (carryB i σ) n = w2 (addW σ a (-flow σ i)) n := by
      unfold carryB
      rw [letF_sea _ z.1 ea (by omega)]
      unfold w2
      rfl
    rw [e, addW_sum σ ha, if_pos z.1, Int32.add_comm (σ 11 3), ← Int32.add_assoc, Int32.add_assoc (w2 σ n), Int32.add_left_neg, Int32.add_zero]
  · have e : w2 (carryB i σ) n = w2 (addW (addW σ a (-flow σ i)) b (flow σ i)) n := by
      unfold carryB
      rw [letF_fld _ eb ea (by omega) (by omega)]
      unfold w2
      rfl
    rw [e, addW_sum _ hb, addW_sum σ ha, if_neg (by rw [eb]; exact nI_ne_m1 (by omega)), Int32.add_assoc (w2 σ n), Int32.add_left_neg, Int32.add_zero]
theorem icarry_sum {n k : Nat} {σ : Sg} (hst : Shp n k σ) : ∀ i, i ≤ k → w2 (it carryB i σ) n + it carryB i σ 11 3 = w2 σ n + σ 11 3 := by
  intro i
  induction i with
  | zero => intro _; rfl
  | succ i ih =>
    intro hi
    exact (carry_sum (hst.iter Shp.carry i) (by omega)).trans (ih (by omega))
/-- all water there was and rain that falls are on fields and in the sea behind an hour -/
theorem all_water {n k : Nat} {σ : Sg} (hst : Shp n k σ) : waterS (hour σ) + hour σ 11 3 = waterS σ + σ 11 3 + nI n * σ 11 2 := by
  have e1 : waterS (hour σ) = w2 (hour2 σ) n := by
    unfold waterS w2
    rw [hst.hr.eF, hour_28 σ (by decide) (by decide) (by decide)]
  have e2 : waterS σ = w2 σ n := by unfold waterS w2; rw [hst.eF]
  rw [e1, e2, hour_sea]
  unfold hour2
  rw [hst.eD, icarry_sum hst.h1 k (Nat.le_refl _)]
  unfold hour1
  rw [hst.eF, rain_sum σ n n (Nat.le_refl _), rain_11, Int32.add_assoc, Int32.add_comm (nI n * σ 11 2), ← Int32.add_assoc]
/-- newly ruined -/
def nwB (σ : Sg) (f : Nat) : Int32 := if hour σ 4 f = 0 then 0 else if σ 4 f = 0 then 1 else 0
theorem nw_sum {n k B : Nat} {σ : Sg} (hI : Iv n k B σ) : ruinN (hour σ) - ruinN σ - sumI (nwB σ) n = 0 := by
  unfold ruinN
  rw [hI.1.eF, hI.1.hr.eF]
  rw [sum_add (f := fun f => if σ 4 f = 0 then (0 : Int32) else 1) (g := nwB σ) (h := fun f => if hour σ 4 f = 0 then (0 : Int32) else 1) (n := n) (fun i hi => ?_)]
  · rw [Int32.add_comm, Int32.add_sub_cancel, Int32.sub_self]
  · show (if hour σ 4 i = 0 then (0 : Int32) else 1) = (if σ 4 i = 0 then 0 else 1) + nwB σ i
    unfold nwB
    by_cases h : σ 4 i = 0
    · rw [if_pos h, if_pos h, Int32.zero_add]
    · rw [if_neg h, if_neg h, if_neg (ru_mono hI hi h), if_neg (ru_mono hI hi h)]
      rfl
theorem wet_six {n k B : Nat} {σ : Sg} (hI : Iv n k B σ) {f : Nat} (hf : f < n) (h0 : σ 4 f = 0) (h1 : ¬ hour σ 4 f = 0) : hour σ 3 f = 6 := by
  rw [hour_4 hI.1 hf] at h1
  rw [hour_3 hI.1 hf]
  by_cases h6 : 6 ≤ wv (hour2 σ) f
  · obtain ⟨w, hw, ew⟩ := hI.2.2.2.1 f hf h0
    rcases wv_or (υ := hour2 σ) (f := f) (w := w) (by rw [h2_row σ (by decide) (by decide) (by decide)]; exact ew) with z | z
    · rw [z] at h6; exact absurd h6 (by decide)
    · rw [z] at h6 ⊢
      have := (nI_leI (a := 6) (b := w + 1) (by omega) (by omega)).mp h6
      rw [show w + 1 = 6 by omega]
      rfl
  · rw [if_neg h6] at h1; exact absurd h0 h1
theorem nwB_1 {σ : Sg} {f : Nat} (h1 : ¬ hour σ 4 f = 0) (h0 : σ 4 f = 0) : nwB σ f = 1 := by unfold nwB; rw [if_neg h1, if_pos h0]
theorem nwB_a {σ : Sg} {f : Nat} (h1 : hour σ 4 f = 0) : nwB σ f = 0 := by unfold nwB; rw [if_pos h1]
theorem nwB_b {σ : Sg} {f : Nat} (h0 : ¬ σ 4 f = 0) : nwB σ f = 0 := by unfold nwB; rw [if_neg h0]; split <;> rfl
theorem sub_step {a b c d : Int32} (h : d = b + c) : a - b - c = a - d := by rw [h, i32_sub3]
