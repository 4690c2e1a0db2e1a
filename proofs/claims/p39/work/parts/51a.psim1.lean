-- PURE: a drain's flow told in the Sim's way
/-- whether a ditch carries from its second field -/
def bk (σ : Sg) (d : Nat) : Int32 := if σ 9 d = 0 then (if σ 0 (σ 5 d).toNatClampNeg + σ 2 (σ 5 d).toNatClampNeg < σ 0 (σ 6 d).toNatClampNeg + σ 2 (σ 6 d).toNatClampNeg then 1 else 0) else 0
theorem bk_p {σ : Sg} {d : Nat} (h9 : ¬ σ 9 d = 0) : bk σ d = 0 := by
  unfold bk; rw [if_neg h9]
theorem bk_d {σ : Sg} {d a b : Nat} (h9 : σ 9 d = 0) (ea : σ 5 d = nI a) (eb : σ 6 d = nI b) (ha : a < 10) (hb : b < 10) : bk σ d = if σ 0 a + σ 2 a < σ 0 b + σ 2 b then 1 else 0 := by
  unfold bk; rw [if_pos h9, ea, eb, nI_clamp (by omega), nI_clamp (by omega)]
theorem bk_ge {σ : Sg} {d a b la lb : Nat} (h9 : σ 9 d = 0) (ea : σ 5 d = nI a) (eb : σ 6 d = nI b) (ha : a < 10) (hb : b < 10) (ela : σ 0 a + σ 2 a = nI la) (elb : σ 0 b + σ 2 b = nI lb) (hla : la < 2 ^ 30) (h : lb ≤ la) : bk σ d = 0 := by
  rw [bk_d h9 ea eb ha hb, ela, elb, if_neg (nI_nlt h (by omega))]
theorem bk_lt {σ : Sg} {d a b la lb : Nat} (h9 : σ 9 d = 0) (ea : σ 5 d = nI a) (eb : σ 6 d = nI b) (ha : a < 10) (hb : b < 10) (ela : σ 0 a + σ 2 a = nI la) (elb : σ 0 b + σ 2 b = nI lb) (hlb : lb < 2 ^ 30) (h : la < lb) : bk σ d = 1 := by
  rw [bk_d h9 ea eb ha hb, ela, elb, if_pos (nI_lt h (by omega))]
theorem flow_shut {σ : Sg} {d : Nat} (h10 : σ 10 d = 0) : flow σ d = 0 := by
  unfold flow flA; rw [if_pos h10]
theorem flow_pump {σ : Sg} {d a c wa : Nat} (h10 : ¬ σ 10 d = 0) (h9 : ¬ σ 9 d = 0) (ea : σ 5 d = nI a) (ha : a < 10) (ewa : σ 2 a = nI wa) (ec : σ 7 d = nI c) (hwa : wa < 2 ^ 30) (hc : c < 2 ^ 30) : flow σ d = nI (min c wa) := by
  unfold flow flA
  rw [if_neg h10, if_pos h9, ea, nI_clamp (by omega), ewa, ec, mn_nI (by omega) (by omega)]
theorem flow_ge {σ : Sg} {d a b c la lb wa : Nat} (h10 : ¬ σ 10 d = 0) (h9 : σ 9 d = 0) (ea : σ 5 d = nI a) (eb : σ 6 d = nI b) (ha : a < 10) (hb : b < 10) (ela : σ 0 a + σ 2 a = nI la) (elb : σ 0 b + σ 2 b = nI lb) (ewa : σ 2 a = nI wa) (ec : σ 7 d = nI c) (hla : la < 2 ^ 30) (hwa : wa < 2 ^ 30) (hc : c < 2 ^ 30) (h : lb ≤ la) : flow σ d = nI (min (min c ((la - lb) / 2)) wa) := by
  unfold flow flA flH
  rw [if_neg h10, if_neg (fun z => z h9), ea, eb, nI_clamp (by omega), nI_clamp (by omega), i32_sub3, ela, elb, pk_sub h, div2 (by omega), if_pos (nI_pos' (by omega)), ewa, ec, mn_nI (by omega) (by omega), mn_nI (by omega) (by omega)]
  congr 1
  omega
theorem flow_lt {σ : Sg} {d a b c la lb wb : Nat} (h10 : ¬ σ 10 d = 0) (h9 : σ 9 d = 0) (ea : σ 5 d = nI a) (eb : σ 6 d = nI b) (ha : a < 10) (hb : b < 10) (ela : σ 0 a + σ 2 a = nI la) (elb : σ 0 b + σ 2 b = nI lb) (ewb : σ 2 b = nI wb) {wa : Nat} (ewa : σ 2 a = nI wa) (ec : σ 7 d = nI c) (hlb : lb < 2 ^ 30) (hwb : wb < 2 ^ 30) (hwa : wa < 2 ^ 30) (hc : c < 2 ^ 30) (h : la < lb) : flow σ d = -nI (min (min c ((lb - la) / 2)) wb) := by
  unfold flow flA flH
  rw [if_neg h10, if_neg (fun z => z h9), ea, eb, nI_clamp (by omega), nI_clamp (by omega), i32_sub3, ela, elb, sub_nI (Nat.le_of_lt h), ndiv2 (by omega), ewb, ewa, ec]
  by_cases h0 : (lb - la) / 2 = 0
  · rw [h0, if_pos (by decide), show -nI 0 = nI 0 from rfl, mn_nI (by omega) (by omega), mn_nI (by omega) (by omega), show min 0 (min c wa) = 0 by omega, show min (min c 0) wb = 0 by omega]
    rfl
  · rw [if_neg (fun z => h0 ((le_neg (by omega)).mp z)), Int32.neg_neg, mn_nI (by omega) (by omega), mn_nI (by omega) (by omega)]
    congr 2
    omega
theorem addW_is (σ : Sg) (a : Nat) (x : Int32) : addW σ a x = sr σ 2 (upd (σ 2) a (σ 2 a + x)) := rfl
theorem addW_comm (σ : Sg) (a b : Nat) (x y : Int32) : addW (addW σ a x) b y = addW (addW σ b y) a x := by
  rw [addW_is (addW σ a x), addW_is (addW σ b y), addW_is σ a x, addW_is σ b y, sr_eq, sr_eq, sr_sr, sr_sr]
  congr 1
  funext i
  by_cases e : a = b
  · subst e
    by_cases h : i = a
    · subst h
      rw [pk_us, pk_us, pk_us, pk_us, Int32.add_assoc, Int32.add_assoc, Int32.add_comm x y]
    · rw [pk_un h, pk_un h, pk_un h, pk_un h]
  · by_cases h : i = a
    · subst h
      rw [pk_un e, pk_us, pk_us, pk_un e]
    · by_cases h2 : i = b
      · subst h2
        rw [pk_us, pk_un h, pk_un h, pk_us]
      · rw [pk_un h2, pk_un h, pk_un h, pk_un h2]
theorem letF_sea {σ : Sg} {d a : Nat} (w : Int32) (h6 : σ 6 d = -1) (ea : σ 5 d = nI a) (ha : a < 10) : letF d w σ = su (sc (addW σ a (-w)) 3 (σ 11 3 + w)) 8 d (σ 8 d + ab w) := by
  unfold letF; rw [if_pos h6, ea, nI_clamp (by omega)]
theorem letF_fld {σ : Sg} {d a b : Nat} (w : Int32) (eb : σ 6 d = nI b) (ea : σ 5 d = nI a) (ha : a < 10) (hb : b < 10) : letF d w σ = su (addW (addW σ a (-w)) b w) 8 d (σ 8 d + ab w) := by
  unfold letF; rw [if_neg (by rw [eb]; exact nI_ne_m1 (by omega)), ea, eb, nI_clamp (by omega), nI_clamp (by omega)]
theorem cy_sea {σ : Sg} {d a v : Nat} (h6 : σ 6 d = -1) (ea : σ 5 d = nI a) (ha : a < 10) (hf : flow σ d = nI v) (hv : v < 2 ^ 30) : su (sc (su σ 2 a (σ 2 a - ab (flow σ d))) 3 (σ 11 3 + ab (flow σ d))) 8 d (σ 8 d + ab (flow σ d)) = carryB d σ := by
  unfold carryB
  rw [letF_sea _ h6 ea ha, hf, ab_nI (by omega), Int32.sub_eq_add_neg]
  rfl
theorem cy_fld {σ : Sg} {d a b v : Nat} (eb : σ 6 d = nI b) (ea : σ 5 d = nI a) (ha : a < 10) (hb : b < 10) (hf : flow σ d = nI v) (hv : v < 2 ^ 30) : su (su (su σ 2 a (σ 2 a - ab (flow σ d))) 2 b ((su σ 2 a (σ 2 a - ab (flow σ d))) 2 b + ab (flow σ d))) 8 d (σ 8 d + ab (flow σ d)) = carryB d σ := by
  unfold carryB
  rw [letF_fld _ eb ea ha hb, hf, ab_nI (by omega), Int32.sub_eq_add_neg]
  rfl
theorem cy_bck {σ : Sg} {d a b v : Nat} (eb : σ 6 d = nI b) (ea : σ 5 d = nI a) (ha : a < 10) (hb : b < 10) (hf : flow σ d = -nI v) (hv : v < 2 ^ 30) : su (su (su σ 2 b (σ 2 b - ab (flow σ d))) 2 a ((su σ 2 b (σ 2 b - ab (flow σ d))) 2 a + ab (flow σ d))) 8 d (σ 8 d + ab (flow σ d)) = carryB d σ := by
  unfold carryB
  rw [letF_fld _ eb ea ha hb, hf, ab_neg (by omega), Int32.neg_neg, addW_comm, Int32.sub_eq_add_neg]
  rfl
-- PURE: what the last part of an hour does
theorem wet_2 (i : Nat) (σ : Sg) : wetB i σ 2 = σ 2 := by
  unfold wetB; split
  · rw [su_row _ _ _ (by decide), su_row _ _ _ (by decide)]
  · rw [su_row _ _ _ (by decide)]
theorem wet_3 (i : Nat) (σ : Sg) (f : Nat) : wetB i σ 3 f = if f = i then wv σ i else σ 3 f := by
  unfold wetB; split
  · rw [su_row _ _ _ (by decide)]
    by_cases e : f = i
    · subst e; rw [if_pos rfl, su_in]
    · rw [if_neg e, su_out _ _ _ e]
  · by_cases e : f = i
    · subst e; rw [if_pos rfl, su_in]
    · rw [if_neg e, su_out _ _ _ e]
theorem wet_4 (i : Nat) (σ : Sg) (f : Nat) : wetB i σ 4 f = if f = i ∧ 6 ≤ wv σ i then 1 else σ 4 f := by
  unfold wetB
  by_cases h : 6 ≤ wv σ i
  · rw [if_pos h]
    by_cases e : f = i
    · subst e; rw [if_pos ⟨rfl, h⟩, su_in]
    · rw [if_neg (fun z => e z.1), su_out _ _ _ e, su_row _ _ _ (by decide)]
  · rw [if_neg h, if_neg (fun z => h z.2), su_row _ _ _ (by decide)]
theorem iw_2 (m : Nat) (σ : Sg) : it wetB m σ 2 = σ 2 := by
  induction m with
  | zero => rfl
  | succ m ih => exact (wet_2 m _).trans ih
theorem iw_3 (m : Nat) (σ : Sg) (f : Nat) : it wetB m σ 3 f = if f < m then wv σ f else σ 3 f := by
  induction m generalizing f with
  | zero => rfl
  | succ m ih =>
    show wetB m (it wetB m σ) 3 f = _
    rw [wet_3]
    by_cases e : f = m
    · subst e
      rw [if_pos rfl, if_pos (by omega)]
      unfold wv
      rw [iw_2, ih, if_neg (show ¬ f < f by omega)]
    · rw [if_neg e, ih]
      by_cases h : f < m
      · rw [if_pos h, if_pos (by omega)]
      · rw [if_neg h, if_neg (by omega)]
theorem iw_v (m : Nat) (σ : Sg) (f : Nat) (h : m ≤ f) : wv (it wetB m σ) f = wv σ f := by
  unfold wv
  rw [iw_2, iw_3, if_neg (show ¬ f < m by omega)]
theorem iw_4 (m : Nat) (σ : Sg) (f : Nat) : it wetB m σ 4 f = if f < m ∧ 6 ≤ wv σ f then 1 else σ 4 f := by
  induction m with
  | zero => rw [if_neg (fun z => by omega)]; rfl
  | succ m ih =>
    show wetB m (it wetB m σ) 4 f = _
    rw [wet_4, iw_v m σ m (Nat.le_refl _)]
    by_cases e : f = m
    · subst e
      by_cases h : 6 ≤ wv σ f
      · rw [if_pos ⟨rfl, h⟩, if_pos ⟨by omega, h⟩]
      · rw [if_neg (fun z => h z.2), if_neg (fun z => h z.2), ih, if_neg (fun z => h z.2)]
    · rw [if_neg (fun z => e z.1), ih]
      by_cases h : f < m ∧ 6 ≤ wv σ f
      · rw [if_pos h, if_pos ⟨by omega, h.2⟩]
      · rw [if_neg h, if_neg (fun z => h ⟨by omega, z.2⟩)]
theorem carry_row (i : Nat) (σ : Sg) {r : Nat} (h2 : ¬ r = 2) (h8 : ¬ r = 8) (h11 : ¬ r = 11) : carryB i σ r = σ r := by
  unfold carryB letF
  rw [su_row _ _ _ h8]
  split
  · rw [sc_row _ _ _ h11]; exact su_row _ _ _ h2
  · exact (su_row _ _ _ h2).trans (su_row _ _ _ h2)
theorem icarry_row (m : Nat) (σ : Sg) {r : Nat} (h2 : ¬ r = 2) (h8 : ¬ r = 8) (h11 : ¬ r = 11) : it carryB m σ r = σ r := by
  induction m with
  | zero => rfl
  | succ m ih => exact (carry_row m _ h2 h8 h11).trans ih
theorem irain_row (m : Nat) (σ : Sg) {r : Nat} (h2 : ¬ r = 2) : it rainB m σ r = σ r := by
  induction m with
  | zero => rfl
  | succ m ih => exact (su_row _ _ _ h2).trans ih
theorem h2_row (σ : Sg) {r : Nat} (h2 : ¬ r = 2) (h8 : ¬ r = 8) (h11 : ¬ r = 11) : hour2 σ r = σ r := by
  unfold hour2 hour1
  rw [icarry_row _ _ h2 h8 h11, irain_row _ _ h2]
theorem hour_4 {n k : Nat} {σ : Sg} (hst : Shp n k σ) {f : Nat} (hf : f < n) : hour σ 4 f = if 6 ≤ wv (hour2 σ) f then 1 else σ 4 f := by
  unfold hour
  rw [sc_row _ _ _ (by decide)]
  unfold hour3
  rw [iw_4, hst.eF, h2_row σ (by decide) (by decide) (by decide)]
  by_cases h : 6 ≤ wv (hour2 σ) f
  · rw [if_pos ⟨hf, h⟩, if_pos h]
  · rw [if_neg (fun z => h z.2), if_neg h]
theorem hour_3 {n k : Nat} {σ : Sg} (hst : Shp n k σ) {f : Nat} (hf : f < n) : hour σ 3 f = wv (hour2 σ) f := by
  unfold hour
  rw [sc_row _ _ _ (by decide)]
  unfold hour3
  rw [iw_3, hst.eF, if_pos hf]
/-- what is newly ruined -/
def nrB (υ : Sg) (f : Nat) : Int32 := if 6 ≤ wv υ f then (if υ 4 f = 1 then 0 else 1) else 0
theorem sum_add {f g h : Nat → Int32} {n : Nat} (hh : ∀ i, i < n → h i = f i + g i) : sumI h n = sumI f n + sumI g n := by
  induction n with
  | zero => rfl
  | succ n ih =>
    show sumI h n + h n = (sumI f n + f n) + (sumI g n + g n)
    rw [ih (fun i hi => hh i (by omega)), hh n (by omega), Int32.add_assoc, Int32.add_assoc]
    congr 1
    rw [← Int32.add_assoc, ← Int32.add_assoc, Int32.add_comm (sumI g n) (f n)]
theorem nr_sum {n k B : Nat} {σ : Sg} (hst : Shp n k σ) (hB : Bnd B σ) : sumI (nrB (hour2 σ)) n = ruinN (hour σ) - ruinN σ := by
  have hn := hst.1
  unfold ruinN
  rw [hst.eF, hst.hr.eF]
  rw [sum_add (f := fun f => if σ 4 f = 0 then (0 : Int32) else 1) (g := nrB (hour2 σ)) (h := fun f => if hour σ 4 f = 0 then (0 : Int32) else 1) (n := n) (fun i hi => ?_)]
  · rw [Int32.add_comm, Int32.add_sub_cancel]
  · show (if hour σ 4 i = 0 then (0 : Int32) else 1) = (if σ 4 i = 0 then 0 else 1) + nrB (hour2 σ) i
    rw [hour_4 hst hi]
    unfold nrB
    rw [h2_row σ (r := 4) (by decide) (by decide) (by decide)]
    rcases hB.2.2.2.2.1 i (by omega) with z | z <;> rw [z] <;> split <;> rfl
theorem le3_4 {x : Int32} (h : ¬ x ≤ 3) : 4 ≤ x := by
  rw [Int32.le_iff_toInt_le] at h ⊢
  rw [show (3 : Int32).toInt = 3 from rfl] at h
  rw [show (4 : Int32).toInt = 4 from rfl]
  omega
theorem le3_n {x : Int32} (h : x ≤ 3) : ¬ 4 ≤ x := by
  rw [Int32.le_iff_toInt_le] at h ⊢
  rw [show (3 : Int32).toInt = 3 from rfl] at h
  rw [show (4 : Int32).toInt = 4 from rfl]
  omega
theorem su_same (σ : Sg) (r i : Nat) {x : Int32} (h : σ r i = x) : su σ r i x = σ := by
  have e : upd (σ r) i x = σ r := by
    funext j
    by_cases z : j = i
    · subst z; rw [pk_us, h]
    · rw [pk_un z]
  unfold su
  rw [e, sr_same]
