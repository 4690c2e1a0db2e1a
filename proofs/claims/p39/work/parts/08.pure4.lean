-- PURE: what is asked of a marsh
def inR (x lo hi : Int32) : Int32 := if lo ≤ x then (if x ≤ hi then 1 else 0) else 0
theorem inR_hasF {i n : Nat} {σ : Sg} (h : σ 11 i = nI n) (hn : n < 2 ^ 31) (x : Int32) : inR x 0 (nI n - 1) = hasF i σ x := by
  unfold inR hasF
  rw [h]
  by_cases h0 : 0 ≤ x
  · rw [if_pos h0, if_pos h0]
    obtain ⟨j, hj, rfl⟩ := nI_of (x := x) (fun z => Int32.not_le.mpr z h0)
    rcases Nat.eq_zero_or_pos n with e | e
    · subst e
      rw [if_neg (show ¬ nI j ≤ nI 0 - 1 by
        rw [Int32.le_iff_toInt_le, nI_toInt hj, show (nI 0 - 1).toInt = -1 from rfl]
        omega), if_neg (show ¬ nI j < nI 0 from nI_nlt (Nat.zero_le _) hj)]
    · rw [show nI n - 1 = nI (n - 1) from pk_sub (a := n) (b := 1) e]
      by_cases h1 : j < n
      · rw [if_pos ((nI_leI hj (by omega)).mpr (by omega)), if_pos ((nI_ltI hj hn).mpr h1)]
      · rw [if_neg (fun q => h1 (by have := (nI_leI hj (by omega)).mp q; omega)), if_neg (fun q => h1 ((nI_ltI hj hn).mp q))]
  · rw [if_neg h0, if_neg h0]
theorem cpy48 (f g : Nat → Int32) {j : Nat} (hj : j < 48) : va_cpy f g (0 : Int32).toNatClampNeg (0 : Int32).toNatClampNeg (48 : Int32).toNatClampNeg j = f j := by
  rw [show (0 : Int32).toNatClampNeg = 0 from rfl, show (48 : Int32).toNatClampNeg = 48 from rfl, pk_cpy_in (by omega) (by omega)]
  congr 1
  omega
/-- what hours leave as it is -/
def Agr (ρ σ : Sg) : Prop := ρ 0 = σ 0 ∧ ρ 1 = σ 1 ∧ ρ 5 = σ 5 ∧ ρ 6 = σ 6 ∧ ρ 7 = σ 7 ∧ ρ 9 = σ 9 ∧ ρ 10 = σ 10 ∧ ρ 11 0 = σ 11 0 ∧ ρ 11 1 = σ 11 1 ∧ ρ 11 2 = σ 11 2
theorem Agr.rf (σ : Sg) : Agr σ σ := ⟨rfl, rfl, rfl, rfl, rfl, rfl, rfl, rfl, rfl, rfl⟩
theorem Agr.tr {ρ σ τ : Sg} (h : Agr ρ σ) (h2 : Agr σ τ) : Agr ρ τ := by
  obtain ⟨a0, a1, a2, a3, a4, a5, a6, a7, a8, a9⟩ := h
  obtain ⟨b0, b1, b2, b3, b4, b5, b6, b7, b8, b9⟩ := h2
  exact ⟨a0.trans b0, a1.trans b1, a2.trans b2, a3.trans b3, a4.trans b4, a5.trans b5, a6.trans b6, a7.trans b7, a8.trans b8, a9.trans b9⟩
theorem Agr.sy {ρ σ : Sg} (h : Agr ρ σ) : Agr σ ρ := by
  obtain ⟨a0, a1, a2, a3, a4, a5, a6, a7, a8, a9⟩ := h
  exact ⟨a0.symm, a1.symm, a2.symm, a3.symm, a4.symm, a5.symm, a6.symm, a7.symm, a8.symm, a9.symm⟩
theorem Agr.iter {b : Nat → Sg → Sg} (hb : ∀ i σ, Agr (b i σ) σ) (t : Nat) (σ : Sg) : Agr (it b t σ) σ := by
  induction t with
  | zero => exact Agr.rf σ
  | succ t ih => exact (hb t _).tr ih
theorem Agr.wet (i : Nat) (σ : Sg) : Agr (wetB i σ) σ := by
  unfold wetB
  split <;> exact ⟨rfl, rfl, rfl, rfl, rfl, rfl, rfl, rfl, rfl, rfl⟩
theorem Agr.carry (i : Nat) (σ : Sg) : Agr (carryB i σ) σ := by
  unfold carryB letF
  split <;> exact ⟨rfl, rfl, rfl, rfl, rfl, rfl, rfl, rfl, rfl, rfl⟩
theorem Agr.hr (σ : Sg) : Agr (hour σ) σ := by
  have h1 : Agr (hour1 σ) σ := Agr.iter (b := rainB) (fun _ _ => ⟨rfl, rfl, rfl, rfl, rfl, rfl, rfl, rfl, rfl, rfl⟩) _ σ
  have h2 : Agr (hour2 σ) (hour1 σ) := Agr.iter Agr.carry _ _
  have h3 : Agr (hour3 σ) (hour2 σ) := Agr.iter Agr.wet _ _
  have h4 : Agr (hour σ) (hour3 σ) := ⟨rfl, rfl, rfl, rfl, rfl, rfl, rfl, rfl, rfl, rfl⟩
  exact h4.tr (h3.tr (h2.tr h1))
theorem Agr.hrs (t : Nat) (σ : Sg) : Agr (hours t σ) σ := Agr.iter (fun _ σ => Agr.hr σ) t σ
theorem Agr.aw (σ : Sg) (j : Nat) (x : Int32) : Agr (addW σ j x) σ := ⟨rfl, rfl, rfl, rfl, rfl, rfl, rfl, rfl, rfl, rfl⟩
theorem rC_agr {cI cZ : ClassId} {o : Nat} {b : Nat → Nat} {ρ σ : Sg} (κ ζ : Nat → Int32) (th : Int32) (h : Agr ρ σ) : (rC cI cZ o b σ κ ζ th).set 8 (b 7, .inl (cI, 48, .inl (nowF ρ))) = rC cI cZ o b ρ κ ζ th := by
  obtain ⟨a0, a1, a2, a3, a4, a5, a6, a7, a8, a9⟩ := h
  unfold rC
  rw [a0, a1, a2, a3, a4, a5, a6, a7, a8, a9]
  rfl
def waterS (σ : Sg) : Int32 := sumI (fun f => σ 2 f) (nF σ)
def wetN (σ : Sg) : Int32 := sumI (fun f => isW σ f) (nF σ)
def opB (σ : Sg) (j d : Nat) : Int32 := if σ 10 d = 0 then 0 else if σ 5 d = nI j then 1 else if σ 6 d = nI j then 1 else 0
def openS (σ : Sg) (j : Nat) : Int32 := sumI (fun d => opB σ j d) (nD σ)
theorem sum_eq {f g : Nat → Int32} {n : Nat} (h : ∀ i, i < n → f i = g i) : sumI f n = sumI g n := by
  induction n with
  | zero => rfl
  | succ n ih =>
    show sumI f n + f n = sumI g n + g n
    rw [ih (fun i hi => h i (by omega)), h n (by omega)]
/-- the first place of the greatest -/
def amax (f : Nat → Int32) : Nat → Int32
  | 0 => -1
  | i + 1 => if amax f i = -1 then nI i else if f (amax f i).toNatClampNeg < f i then nI i else amax f i
theorem amax_is (f : Nat → Int32) : ∀ i, i < 2 ^ 30 → (amax f i = -1 ∧ i = 0) ∨ ∃ q, q < i ∧ amax f i = nI q
  | 0, _ => Or.inl ⟨rfl, rfl⟩
  | i + 1, hi => by
    refine Or.inr ?_
    show ∃ q, q < i + 1 ∧ (if amax f i = -1 then nI i else if f (amax f i).toNatClampNeg < f i then nI i else amax f i) = nI q
    rcases amax_is f i (by omega) with ⟨e, e0⟩ | ⟨q, hq, e⟩
    · exact ⟨i, by omega, by rw [if_pos e]⟩
    · by_cases h : amax f i = -1
      · exact ⟨i, by omega, by rw [if_pos h]⟩
      · rw [if_neg h]
        by_cases h2 : f (amax f i).toNatClampNeg < f i
        · exact ⟨i, by omega, by rw [if_pos h2]⟩
        · exact ⟨q, by omega, by rw [if_neg h2, e]⟩
theorem nI_ne_m1 {q : Nat} (h : q < 2 ^ 31) : ¬ nI q = -1 := by
  intro e
  have := congrArg Int32.toInt e
  rw [nI_toInt h] at this
  have h2 : (-1 : Int32).toInt = -1 := rfl
  omega
/-- the first of the least, with what it is; from a start -/
def amin (g : Nat → Int32) (z : Int32) : Nat → Int32 × Int32
  | 0 => (-1, z)
  | i + 1 => if g i < (amin g z i).2 then (nI i, g i) else amin g z i
def aminF (g : Nat → Int32) : Nat → Int32 × Int32
  | 0 => (-1, 0)
  | i + 1 => if (aminF g i).1 = -1 then (nI i, g i) else if g i < (aminF g i).2 then (nI i, g i) else aminF g i
/-- the greatest place below i where g is L -/
def lastI (g : Nat → Int32) (L : Int32) : Nat → Int32
  | 0 => -1
  | i + 1 => if g i = L then nI i else lastI g L i
/-- the first place from i on where g is not 0 -/
def fstI (g : Nat → Int32) : Nat → Nat → Int32
  | 0, _ => -1
  | k + 1, i => if g i = 0 then fstI g k (i + 1) else nI i
def lossH (t : Nat) (σ : Sg) : Int32 := lost (hours t σ)
def untilS (σ : Sg) (j : Nat) : Int32 := fstI (fun i => hours i σ 4 j) 101 0
def turnB (σ : Sg) : Int32 := (amin (fun d => lossH 24 (turnS σ d)) (lossH 24 σ) (nD σ)).1
def floodB (σ : Sg) (x : Int32) : Int32 := (aminF (fun f => lossH 24 (addW σ f x)) (nF σ)).1
def rainS (σ : Sg) (i : Nat) : Sg := sc σ 2 (nI i)
def borneS (σ : Sg) : Int32 := lastI (fun i => lossH 24 (rainS σ i)) (lost σ) 10
theorem Shp.tu {n k : Nat} {σ : Sg} (h : Shp n k σ) (d : Nat) : Shp n k (turnS σ d) := h.osu 10 d _ (by decide) (by decide) (by decide) (by decide)
theorem Shp.ra {n k : Nat} {σ : Sg} (h : Shp n k σ) (i : Nat) : Shp n k (rainS σ i) := h.osc 2 _ (by decide) (by decide)
theorem Bnd.tu {B : Nat} {σ : Sg} (h : Bnd B σ) (d : Nat) : Bnd B (turnS σ d) := by
  obtain ⟨a0, a1, a2, a3, a4, a5, a6⟩ := h
  refine ⟨a0, a1, a2, a3, a4, a5, fun q hq => ?_⟩
  unfold turnS
  by_cases e : q = d
  · subst e
    rw [su_in]
    by_cases z : σ 10 q = 0
    · rw [if_pos z]; exact Or.inr rfl
    · rw [if_neg z]; exact Or.inl rfl
  · rw [su_out _ _ _ e]
    exact a6 q hq
theorem Bnd.ra {B : Nat} {σ : Sg} (h : Bnd B σ) {i : Nat} (hi : i ≤ 9) : Bnd B (rainS σ i) := by
  obtain ⟨a0, a1, a2, a3, a4, a5, a6⟩ := h
  exact ⟨a0, a1, a2, ⟨i, hi, rfl⟩, a4, a5, a6⟩
theorem Bnd.aw {B : Nat} {σ : Sg} (h : Bnd B σ) (j : Nat) {x : Nat} (hx : x ≤ 50) : Bnd (B + 50) (addW σ j (nI x)) := by
  refine h.rows (fun f hf => ?_) rfl rfl rfl h.2.2.2.2.1 rfl rfl
  obtain ⟨w, h1, h2⟩ := h.1 f hf
  unfold addW
  by_cases e : f = j
  · subst e
    rw [su_in, h2, nI_add]
    exact ⟨w + x, by omega, rfl⟩
  · rw [su_out _ _ _ e]
    exact ⟨w, by omega, h2⟩
theorem turn_turn {σ : Sg} {d : Nat} (h : σ 10 d = 0 ∨ σ 10 d = 1) : turnS (turnS σ d) d = σ := by
  unfold turnS
  rw [su_in]
  unfold su
  rw [sr_eq, sr_sr]
  conv => rhs; rw [← sr_same σ 10]
  congr 1
  funext q
  by_cases e : q = d
  · subst e
    rw [pk_us]
    rcases h with h | h <;> rw [h] <;> rfl
  · rw [pk_un e, pk_un e]
theorem rain_rain (σ : Sg) (i : Nat) (x : Int32) : sc (rainS σ i) 2 x = sc σ 2 x := by
  unfold rainS sc
  rw [sr_eq, sr_sr]
  congr 1
  funext q
  unfold up1
  cases h : Nat.beq q 2 <;> rfl
theorem rain_back (σ : Sg) : sc σ 2 (σ 11 2) = σ := by
  unfold sc
  conv => rhs; rw [← sr_same σ 11]
  congr 1
  funext q
  unfold up1
  cases h : Nat.beq q 2
  · rfl
  · rw [Nat.eq_of_beq_eq_true h]; rfl
def kF (x y : Nat → Int32) (i : Nat) : Nat → Int32 := cond (Nat.beq i 0) x y
theorem kF_same (x : Nat → Int32) (i : Nat) : kF x x i = x := by
  unfold kF
  cases Nat.beq i 0 <;> rfl
theorem nowF_turn (σ : Sg) (d : Nat) : nowF (turnS σ d) = nowF σ := by
  unfold turnS nowF
  rw [su_row _ _ _ (by decide : ¬ 2 = 10), su_row _ _ _ (by decide : ¬ 3 = 10), su_row _ _ _ (by decide : ¬ 4 = 10), su_row _ _ _ (by decide : ¬ 8 = 10), su_row _ _ _ (by decide : ¬ 11 = 10)]
theorem nowF_rain (σ : Sg) (i : Nat) : nowF (rainS σ i) = nowF σ := by
  have e4 : rainS σ i 11 4 = σ 11 4 := rfl
  have e3 : rainS σ i 11 3 = σ 11 3 := rfl
  unfold nowF
  rw [e4, e3]
  unfold rainS
  rw [sc_row _ _ _ (by decide : ¬ 2 = 11), sc_row _ _ _ (by decide : ¬ 3 = 11), sc_row _ _ _ (by decide : ¬ 4 = 11), sc_row _ _ _ (by decide : ¬ 8 = 11)]
theorem amin_z1 (g : Nat → Int32) (z : Int32) : (-1 : Int32) = (amin g z 0).1 := rfl
theorem amin_z2 (g : Nat → Int32) (z : Int32) : z = (amin g z 0).2 := rfl
theorem inR_n (lo hi : Nat) (hh : lo < 2 ^ 31 ∧ hi < 2 ^ 31) (x : Int32) (h : ¬ inR x (nI lo) (nI hi) = 0) : ∃ t, lo ≤ t ∧ t ≤ hi ∧ x = nI t := by
  unfold inR at h
  by_cases h1 : nI lo ≤ x
  · rw [if_pos h1] at h
    by_cases h2 : x ≤ nI hi
    · obtain ⟨hlo, hhi⟩ := hh
      obtain ⟨j, hj, rfl⟩ := nI_of (x := x) (fun z => by
        have h3 := Int32.le_iff_toInt_le.mp h1
        rw [nI_toInt hlo] at h3
        have h4 := Int32.lt_iff_toInt_lt.mp z
        rw [show (0 : Int32).toInt = 0 from rfl] at h4
        omega)
      exact ⟨j, (nI_leI hlo hj).mp h1, (nI_leI hj hhi).mp h2, rfl⟩
    · rw [if_neg h2] at h; exact absurd rfl h
  · rw [if_neg h1] at h; exact absurd rfl h
