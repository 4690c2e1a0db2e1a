-- PURE: the mean is a number
theorem mask_is (a : UInt64) : (a &&& 0x7fffffffffffffff).toNat = a.toNat % 2 ^ 63 := by
  rw [UInt64.toNat_and, show (0x7fffffffffffffff : UInt64).toNat = 2 ^ 63 - 1 from rfl, Nat.and_two_pow_sub_one_eq_mod]
theorem mean_num (x : Int32) {v : Int32} (h : v ≠ 0) : vf_n64 (FP.ddiv (FP.i2d x) (FP.i2d v)) := by
  have h1 : FP.Core.dIsNaN (FP.Core.ddiv (FP.Core.i2d x) (FP.Core.i2d v)) = false :=
    FP.Core.ddiv_out (FP.Core.DFin.notNaN (FP.Core.i2d_fin x)) (FP.Core.i2d_fin v) (fun z => FP.Core.i2d_ne_zero h ((FP.Core.zero_bits2 _).mp z))
  have h2 : ¬ 9218868437227405312 < (FP.Core.ddiv (FP.Core.i2d x) (FP.Core.i2d v)).toNat % 2 ^ 63 := fun z => by
    have := (FP.Core.isNaN_bits _).mpr z
    rw [h1] at this
    exact absurd this (by decide)
  unfold vf_n64
  show FP.Core.ddiv (FP.Core.i2d x) (FP.Core.i2d v) &&& 0x7fffffffffffffff ≤ 0x7ff0000000000000
  rw [UInt64.le_iff_toNat_le, mask_is]
  have h3 : (0x7ff0000000000000 : UInt64).toNat = 9218868437227405312 := rfl
  rw [h3]
  omega
theorem rd {p : Program} {l : Launch} {e : Env} {R : Room} {s : State} {m : MethodId} {args : Array Value} {below : List Frame} {meth : Method} {c : Code} {H : Heap} {locs : List Loc} {cells slots : Nat} {D : va_G} {tys : List (ClassId × FieldType)} {A : Nat → Prop} {pc : Nat} {ls : Array Slot} {cc : ByteArray} {wc wc' : va_W} {v r : UInt64} (hx : p.tables.exec = Jvm.exec) (hb : c.code = cc) (hr : meth.sig.returnType = some .double) (hlocks : meth.locks = false) (hK : va_K D vwCl tys s) (hP : va_P D vwCl wc H) (hD : va_D A wc) (hS : va_S A s.heap H locs) (hdg : decode cc pc = .ok (.dreturn, 1)) (hw : wc = wc') (hv : v = r) :
    W p l e R s m args below meth c H locs cells slots (MQ below (qv D tys A wc' (some (.double r))) args s cells slots A) (F0 m pc ls [.double v]) := by
  subst hw; subst hv
  exact W.dret hx hb hr (fun t ht hW => ⟨⟨rfl, by rw [ht]; exact hP, va_K.moved hW.alike hK, hD⟩, hS.F ht⟩) hS.2.2 hdg hlocks
theorem xrd {p : Program} {l : Launch} {e : Env} {R : Room} {s : State} {m : MethodId} {args : Array Value} {below : List Frame} {meth : Method} {c : Code} {H : Heap} {locs : List Loc} {cells slots : Nat} {D : va_G} {tys : List (ClassId × FieldType)} {A : Nat → Prop} {pc : Nat} {ls : Array Slot} {cc : ByteArray} {wc : va_W} {wc' : Sg → va_W} {v r : UInt64} (ρ : Sg) (hx : p.tables.exec = Jvm.exec) (hb : c.code = cc) (hr : meth.sig.returnType = some .double) (hlocks : meth.locks = false) (hK : va_K D vwCl tys s) (hP : va_P D vwCl wc H) (hD : va_D A wc) (hS : va_S A s.heap H locs) (hdg : decode cc pc = .ok (.dreturn, 1)) (hw : wc = wc' ρ) (hv : v = r) :
    W p l e R s m args below meth c H locs cells slots (MQ below (qvx D tys A wc' (some (.double r))) args s cells slots A) (F0 m pc ls [.double v]) := by
  subst hw; subst hv
  exact W.dret hx hb hr (fun t ht hW => ⟨⟨ρ, rfl, by rw [ht]; exact hP, va_K.moved hW.alike hK, hD⟩, hS.F ht⟩) hS.2.2 hdg hlocks
def meanS (σ : Sg) : UInt64 := if nF σ = 0 then FP.dconst0 else FP.ddiv (FP.i2d (waterS σ)) (FP.i2d (nI (nF σ)))
-- PURE: what the model has seen
def bI (b : Bool) : Int32 := if b then 1 else 0
theorem bI_0 {b : Bool} (h : bI b = 0) : b = false := by
  cases b with
  | false => rfl
  | true => exact absurd h (by decide)
theorem bI_1 {b : Bool} (h : ¬ bI b = 0) : b = true := by
  cases b with
  | true => rfl
  | false => exact absurd rfl h
theorem bI_1v {b : Bool} (h : ¬ bI b = 0) : 1 = bI b := by rw [bI_1 h]; rfl
def seenF (n q : Nat) (ζ : Nat → Int32) : Nat → Int32 := fun f => if f < n then bI (q.testBit f) else ζ f
def seen0 (j : Nat) (ζ : Nat → Int32) (i : Nat) : Nat → Int32 := fun f => if f < i then (if f = j then 1 else 0) else ζ f
theorem seenF_at {n q f : Nat} {ζ : Nat → Int32} (h : f < n) : seenF n q ζ f = bI (q.testBit f) := by
  unfold seenF; rw [if_pos h]
theorem seen0_0 (j : Nat) (ζ : Nat → Int32) : seen0 j ζ 0 = ζ := by
  funext f; unfold seen0; rw [if_neg (by omega)]
theorem seen0_1 (j : Nat) (ζ : Nat → Int32) (i : Nat) : upd (seen0 j ζ i) i (if i = j then 1 else 0) = seen0 j ζ (i + 1) := by
  funext f
  unfold upd seen0
  by_cases e : f = i
  · subst e
    rw [if_pos rfl, if_pos (show f < f + 1 by omega)]
  · rw [if_neg e]
    by_cases z : f < i
    · rw [if_pos z, if_pos (show f < i + 1 by omega)]
    · rw [if_neg z, if_neg (show ¬ f < i + 1 by omega)]
theorem seen0_n (j : Nat) (ζ : Nat → Int32) (n : Nat) : seen0 j ζ n = seenF n (2 ^ j) ζ := by
  funext f
  unfold seen0 seenF
  by_cases z : f < n
  · rw [if_pos z, if_pos z, Nat.testBit_two_pow]
    by_cases e : f = j
    · subst e
      rw [if_pos rfl, decide_eq_true rfl]; rfl
    · rw [if_neg e, decide_eq_false (fun h => e h.symm)]; rfl
  · rw [if_neg z, if_neg z]
theorem seenF_up {n q b : Nat} (ζ : Nat → Int32) (h : b < n) : upd (seenF n q ζ) b 1 = seenF n (q ||| 2 ^ b) ζ := by
  funext f
  unfold upd seenF
  by_cases e : f = b
  · subst e
    rw [if_pos rfl, if_pos h, Nat.testBit_or, Nat.testBit_two_pow_self, Bool.or_true]; rfl
  · rw [if_neg e]
    by_cases z : f < n
    · rw [if_pos z, if_pos z, Nat.testBit_or, Nat.testBit_two_pow_of_ne (fun h => e h.symm), Bool.or_false]
    · rw [if_neg z, if_neg z]
theorem or_same {q b : Nat} (h : q.testBit b = true) : q ||| 2 ^ b = q := by
  apply Nat.eq_of_testBit_eq
  intro i
  rw [Nat.testBit_or]
  by_cases e : b = i
  · subst e; rw [h]; rfl
  · rw [Nat.testBit_two_pow_of_ne e, Bool.or_false]
def chg (p q : Nat) : Int32 := if p = q then 0 else 1
theorem chg_0 (q : Nat) : chg q q = 0 := if_pos rfl
theorem chg_1 {p q : Nat} (h : ¬ p = q) : chg p q = 1 := if_neg h
theorem chg_new {q b : Nat} (h : q.testBit b = false) : chg (q ||| 2 ^ b) q = 1 := by
  refine chg_1 (fun z => ?_)
  have h2 : (q ||| 2 ^ b).testBit b = true := by rw [Nat.testBit_or, Nat.testBit_two_pow_self, Bool.or_true]
  rw [z, h] at h2
  exact absurd h2 (by decide)
theorem fw_le (a b q : Nat) : q ≤ fw a b q := by
  unfold fw
  split
  · exact Nat.left_le_or
  · exact Nat.le_refl _
theorem sm_le {n k d q : Nat} {σ : Sg} (hst : Shp n k σ) (hd : d < k) : q ≤ stepM σ d q := by
  rcases sm_any (q := q) hst hd with h | ⟨a, b, _, _, h | h⟩
  · rw [h]; exact Nat.le_refl _
  · rw [h]; exact fw_le a b q
  · rw [h]; exact Nat.le_trans (fw_le a b q) (fw_le b a _)
theorem pn_le {n k q : Nat} {σ : Sg} (hst : Shp n k σ) : ∀ i, i ≤ k → q ≤ passN σ q i := by
  intro i
  induction i with
  | zero => intro _; exact Nat.le_refl _
  | succ i ih => intro h; exact Nat.le_trans (ih (by omega)) (sm_le hst (by omega))
theorem chg_or {q p r : Nat} (h1 : q ≤ p) (h2 : p ≤ r) : chg p q ||| chg r p = chg r q := by
  unfold chg
  by_cases e1 : p = q
  · subst e1
    rw [if_pos rfl]
    split <;> decide
  · rw [if_neg e1]
    rw [if_neg (show ¬ r = q by omega)]
    split <;> decide
theorem sum_cN (q : Nat) : ∀ i, sumI (fun f => bI (q.testBit f)) i = nI (cN q i) := by
  intro i
  induction i with
  | zero => rfl
  | succ i ih =>
    show sumI (fun f => bI (q.testBit f)) i + bI (q.testBit i) = nI (cN q i + (if q.testBit i then 1 else 0))
    rw [ih, ← nI_add]
    cases q.testBit i <;> rfl
theorem reach_of {n k j : Nat} {σ : Sg} (hst : Shp n k σ) (hj : j < n) : sumI (fun f => bI ((cloM σ j).testBit f)) n - 1 = reachS σ j := by
  unfold reachS
  rw [sum_cN, cN_out (clo_lt hst hj) 10 hst.1]
