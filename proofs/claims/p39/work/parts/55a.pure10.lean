-- PURE: the mean is a number
theorem mask_is (a : UInt64) : (a &&& 0x7fffffffffffffff).toNat = a.toNat % 2 ^ 63 := by
  rw [UInt64.toNat_and, show (0x7fffffffffffffff : UInt64).toNat = 2 ^ 63 - 1 from rfl, Nat.and_two_pow_sub_one_eq_mod]
theorem mean_num (x : Int32) {v : Int32} (h : v ≠ 0) : vf_n64 (FP.ddiv (FP.i2d x) (FP.i2d v)) := by
  have h1 : FP.Core.dIsNaN (FP.Core.ddiv (FP.Core.i2d x) (FP.Core.i2d v)) = false :=
    FP.Core.ddiv_out (FP.Core.DFin.notNaN (FP.Core.i2d_fin x)) (FP.Core.i2d_fin v) (fun z => FP.Core.i2d_ne_zero h ((FP.Core.zero_bits2 _).mp z))
  have h2 : ¬ 9218868437227405312 < (FP.Core.ddiv (FP.Core.i2d x) (FP.Core.i2d v)).toNat % 2 ^ 63 := fun z => by
    have := (FP.Core.isNaN_bits _).mpr z
    rw [h1] at this
    exact absurd this (by decide)
  unfold vf_n64
  show FP.Core.ddiv (FP.Core.i2d x) (FP.Core.i2d v) &&& 0x7fffffffffffffff ≤ 0x7ff0000000000000
  rw [UInt64.le_iff_toNat_le, mask_is]
  have h3 : (0x7ff0000000000000 : UInt64).toNat = 9218868437227405312 := rfl
  rw [h3]
  omega
theorem rd {p : Program} {l : Launch} {e : Env} {R : Room} {s : State} {m : MethodId} {args : Array Value} {below : List Frame} {meth : Method} {c : Code} {H : Heap} {locs : List Loc} {cells slots : Nat} {D : va_G} {tys : List (ClassId × FieldType)} {A : Nat → Prop} {pc : Nat} {ls : Array Slot} {cc : ByteArray} {wc wc' : va_W} {v r : UInt64} (hx : p.tables.exec = Jvm.exec) (hb : c.code = cc) (hr : meth.sig.returnType = some .double) (hlocks : meth.locks = false) (hK : va_K D vwCl tys s) (hP : va_P D vwCl wc H) (hD : va_D A wc) (hS : va_S A s.heap H locs) (hdg : decode cc pc = .ok (.dreturn, 1)) (hw : wc = wc') (hv : v = r) :
    W p l e R s m args below meth c H locs cells slots (MQ below (qv D tys A wc' (some (.double r))) args s cells slots A) (F0 m pc ls [.double v]) := by
  subst hw; subst hv
  exact W.dret hx hb hr (fun t ht hW => ⟨⟨rfl, by rw [ht]; exact hP, va_K.moved hW.alike hK, hD⟩, hS.F ht⟩) hS.2.2 hdg hlocks
theorem xrd {p : Program} {l : Launch} {e : Env} {R : Room} {s : State} {m : MethodId} {args : Array Value} {below : List Frame} {meth : Method} {c : Code} {H : Heap} {locs : List Loc} {cells slots : Nat} {D : va_G} {tys : List (ClassId × FieldType)} {A : Nat → Prop} {pc : Nat} {ls : Array Slot} {cc : ByteArray} {wc : va_W} {wc' : Sg → va_W} {v r : UInt64} (ρ : Sg) (hx : p.tables.exec = Jvm.exec) (hb : c.code = cc) (hr : meth.sig.returnType = some .double) (hlocks : meth.locks = false) (hK : va_K D vwCl tys s) (hP : va_P D vwCl wc H) (hD : va_D A wc) (hS : va_S A s.heap H locs) (hdg : decode cc pc = .ok (.dreturn, 1)) (hw : wc = wc' ρ) (hv : v = r) :
    W p l e R s m args below meth c H locs cells slots (MQ below (qvx D tys A wc' (some (.double r))) args s cells slots A) (F0 m pc ls [.double v]) := by
  subst hw; subst hv
  exact W.dret hx hb hr (fun t ht hW => ⟨⟨ρ, rfl, by rw [ht]; exact hP, va_K.moved hW.alike hK, hD⟩, hS.F ht⟩) hS.2.2 hdg hlocks
def meanS (σ : Sg) : UInt64 := if nF σ = 0 then FP.dconst0 else FP.ddiv (FP.i2d (waterS σ)) (FP.i2d (nI (nF σ)))
