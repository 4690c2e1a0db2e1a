-- OWN KIT 3: new arrays, dropping what is dead, more room than is used
abbrev tC (cI : ClassId) (q n : Nat) (f : Nat → Int32) : va_W := [(q, .inl (cI, n, .inl f))]
theorem spF (a b : va_W) : a ++ b = [] ++ (a ++ b) := rfl
theorem drop2 {D : va_G} {cl : List vw_C} {A : Nat → Prop} {H : Heap} {a b : va_W} (hP : va_P D cl (a ++ b) H) (hD : va_D A (a ++ b)) : va_P D cl a H ∧ va_D A a := by
  refine ⟨kP_iff.mpr fun q hq => kP_iff.mp hP q (List.mem_append_left _ hq), kD_iff.mpr ⟨?_, fun q hq => (kD_iff.mp hD).2 q (List.mem_append_left _ hq)⟩⟩
  have h := (kD_iff.mp hD).1
  rw [List.map_append] at h
  exact (List.nodup_append.mp h).1
section KN
variable {p : Program} {l : Launch} {e : Env} {R : Room} {s : State} {m : MethodId} {args : Array Value} {below : List Frame} {meth : Method} {c : Code} {H H0 : Heap} {locs : List Loc} {cells slots : Nat} {Q : State → Prop}
variable {D : va_G} {cl : List vw_C} {tys : List (ClassId × FieldType)} {A : Nat → Prop} {pc : Nat} {ls : Array Slot} {rest : List Value} {cc : ByteArray} {ws : va_W}
theorem W.wide {g : JFrame} {k n : Nat} (h1 : cells ≤ k) (h2 : slots ≤ n) (kk : W p l e R s m args below meth c H locs k n Q g) : W p l e R s m args below meth c H locs cells slots Q g := fun T hT X => kk T hT (stand_widen X h1 h2)
theorem x_new {atype : ArrayType} {ty : FieldType} (hty : newarray.typeOf atype = ty) (hdv : defaultValue ty = .int 0) (hra : ∀ c d, va_RA s c ty → va_RA s d ty → c = d) (hx : p.tables.exec = Jvm.exec) (hb : c.code = cc) (harr : (Cond.arrayClass ty).before args s = true) (hK : va_K D cl tys s) (hP : va_P D cl ws H) (hD : va_D A ws) (hS : va_S A H0 H locs) (hA : ∀ q, H0.size ≤ q → A q)
    (k : Nat) {cI : ClassId} (ht : tys[k]? = some (cI, ty)) {n : Int32} {N' : Nat} (hn : ¬ n < 0) (hN : n.toNatClampNeg = N') (hbytes : N' * componentBytes ty ≤ 536870912) (hcells : cells + 1 ≤ R.cells) (hslots : slots + N' ≤ R.slots) (hdg : decode cc pc = .ok (.newarray atype, 2))
    (kk : ∀ (q : Nat) (H1 : Heap), va_P D cl (ws ++ [(q, .inl (cI, N', .inl (fun _ => 0)))]) H1 → va_D A (ws ++ [(q, .inl (cI, N', .inl (fun _ => 0)))]) → va_S A H0 H1 locs → W p l e R s m args below meth c H1 locs (cells + 1) (slots + N') Q (F0 m (pc + 2) ls (.ref q :: rest))) :
    W p l e R s m args below meth c H locs cells slots Q (F0 m pc ls (.int n :: rest)) := by
  refine va_newa hx hb (by rw [hty]; exact harr) hty hK hP hD hS hA (a0 := (N', .inl (fun _ => 0))) (fun cA => by rw [vp_cell_i, hdv]) hn hN hbytes hcells hslots hdg (fun q cA H1 hK2 hP2 hD2 hS2 => ?_)
  have h1 := (hK2.2 tys.length (cA, ty) (by simp)).2
  have h2 := (hK.2 k _ ht).2
  have e : cA = cI := hra _ _ h1 h2
  rw [e] at hP2 hD2
  exact kk q H1 hP2 hD2 hS2
end KN
theorem ra_int {s : State} (c d : ClassId) (h1 : va_RA s c .int) (h2 : va_RA s d .int) : c = d := Option.some.inj ((va_nm_int h1).symm.trans (va_nm_int h2))
