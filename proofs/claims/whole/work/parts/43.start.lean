-- the start: what the tables and the premises give
theorem EXW_tbl : ∀ w ∈ EXW, w ∈ lw_tbl := by decide +kernel
theorem EXS_tbl : ∀ q ∈ EXS, Cond.stringRef RX1 q.1 q.2 ∈ lw_tbl := by decide +kernel
theorem EXC_in : ∀ q ∈ EXC, Cond.not (.castable q.1 q.2) ∈ flatC (Jvm.Cond.and given_1 narrow_1) := by decide +kernel
theorem EXS_in : ∀ q ∈ EXS, Cond.exactly (Term.string RX1 q.1) "java/lang/String" ∈ flatC (Jvm.Cond.and given_1 narrow_1) := by decide +kernel
theorem EXZ_tbl : Cond.laysStatic "java/lang/Throwable" "UNASSIGNED_STACK" "[Ljava/lang/StackTraceElement;" ∈ lw_tbl ∧ Cond.laysStatic "java/lang/Throwable" "SUPPRESSED_SENTINEL" "Ljava/util/List;" ∈ lw_tbl ∧ Cond.initialized "java/lang/Throwable" ∈ lw_tbl := by decide +kernel
theorem EXZ_in : Cond.isRef (.static "java/lang/Throwable" "UNASSIGNED_STACK" "[Ljava/lang/StackTraceElement;") ∈ flatC (Jvm.Cond.and given_1 narrow_1) ∧ Cond.isRef (.static "java/lang/Throwable" "SUPPRESSED_SENTINEL" "Ljava/util/List;") ∈ flatC (Jvm.Cond.and given_1 narrow_1) := by decide +kernel
theorem ex_start {s : State} {b : Nat} {A : Nat → Prop} (hts0 : ∀ w ∈ lw_tbl, w.before #[Value.ref b] s = true) (hgv : (Jvm.Cond.and given_1 narrow_1).before #[Value.ref b] s = true) (hA : ∀ a : Nat, a < s.heap.size → ¬ A a) : EX A s s.heap := by
  have hs := flat_of_before _ hgv
  refine ⟨fun w hw => va_Nw.of (List.all_eq_true.mp EXW_ok w hw) (hts0 w (EXW_tbl w hw)), fun q hq => va_Nc.of (hs _ (EXC_in q hq)), fun q hq => ?_, ?_, ?_⟩
  · obtain ⟨a, -, -, -, ha, -⟩ := Cond.exactly_spec (hs _ (EXS_in q hq))
    exact ⟨a, vk_R.of (hts0 _ (EXS_tbl q hq)) ha⟩
  · exact vx_Zqof (hts0 _ EXZ_tbl.1) (hts0 _ EXZ_tbl.2.2) (hs _ EXZ_in.1) hA
  · exact vx_Zqof (hts0 _ EXZ_tbl.2.1) (hts0 _ EXZ_tbl.2.2) (hs _ EXZ_in.2) hA
theorem k_start {s : State} {args : Array Value} (hts : ∀ w ∈ LW, w.before args s = true) : ∃ (D : va_G) (cI cZ cL : ClassId), va_K D vwCl (tZ cI cZ cL) s := by
  obtain ⟨c0, i0, h0⟩ := u_known (C := RX0) (T := TX0) (N := 16) hts in_wsX00 (hts _ q59)
  obtain ⟨c1, i1, h1⟩ := u_known (C := RX1) (T := TX1) (N := 2) hts in_wsX10 (hts _ q51)
  obtain ⟨c2, i2, h2⟩ := u_known (C := RX2) (T := TX2) (N := 14) hts in_wsX20 (hts _ q587)
  obtain ⟨cI, aI, rI⟩ := ar_of (hts _ q126) (fun c h => h)
  obtain ⟨cZ, aZ, rZ⟩ := ar_of (hts _ q127) (fun c h => h)
  obtain ⟨cL, aL, rL⟩ := ar_of (hts _ q909) (fun c h => h)
  refine ⟨(fun c => match c with | 0 => c0 | 1 => c1 | _ => c2, fun c => match c with | 0 => i0 | 1 => i1 | _ => i2), cI, cZ, cL, fun c q hq => ?_, fun k q hq => ?_⟩
  · match c, hq with
    | 0, hq => cases hq; exact h0
    | 1, hq => cases hq; exact h1
    | 2, hq => cases hq; exact h2
  · match k, hq with
    | 0, hq => cases hq; exact ⟨aI, rI⟩
    | 1, hq => cases hq; exact ⟨aZ, rZ⟩
    | 2, hq => cases hq; exact ⟨aL, rL⟩
theorem swap2 {D : va_G} {cl : List vw_C} {A : Nat → Prop} {H : Heap} {a r l : va_W} (hP : va_P D cl (a ++ (r ++ l)) H) (hD : va_D A (a ++ (r ++ l))) : va_P D cl (a ++ (l ++ r)) H ∧ va_D A (a ++ (l ++ r)) := by
  have hp : (a ++ (l ++ r)).Perm (a ++ (r ++ l)) := List.Perm.append_left a List.perm_append_comm
  refine ⟨kP_iff.mpr fun q hq => kP_iff.mp hP q (hp.mem_iff.mp hq), kD_iff.mpr ⟨?_, fun q hq => (kD_iff.mp hD).2 q (hp.mem_iff.mp hq)⟩⟩
  exact ((hp.map Prod.fst).nodup_iff).mpr (kD_iff.mp hD).1
theorem ra_long {s : State} (c d : ClassId) (h1 : va_RA s c .long) (h2 : va_RA s d .long) : c = d := Option.some.inj ((va_nm_long h1).symm.trans (va_nm_long h2))
theorem and63 (x : Int32) : ∃ r, r < 64 ∧ x &&& 63 = nI r := by
  refine ⟨(x &&& 63).toBitVec.toNat, ?_, ?_⟩
  · show (x.toBitVec &&& (63 : Int32).toBitVec).toNat < 64
    rw [BitVec.toNat_and]
    exact Nat.lt_of_le_of_lt Nat.and_le_right (by decide)
  · unfold nI
    apply Int32.toBitVec_inj.1
    simp
section KS
variable {p : Program} {l : Launch} {e : Env} {R : Room} {s : State} {m : MethodId} {args : Array Value} {below : List Frame} {meth : Method} {c : Code} {H : Heap} {locs : List Loc} {cells slots : Nat} {Q : State → Prop}
variable {D : va_G} {tys : List (ClassId × FieldType)} {cl : List vw_C} {A A0 : Nat → Prop} {pc : Nat} {ls : Array Slot} {rest st0 : List Value} {cc : ByteArray} {ι : Type} {ws : va_W} {H0 : Heap}
theorem x_newL {atype : ArrayType} {ty : FieldType} (hty : newarray.typeOf atype = ty) (hdv : defaultValue ty = .long 0) (hra : ∀ c d, va_RA s c ty → va_RA s d ty → c = d) (hx : p.tables.exec = Jvm.exec) (hb : c.code = cc) (harr : (Cond.arrayClass ty).before args s = true) (hK : va_K D cl tys s) (hP : va_P D cl ws H) (hD : va_D A ws) (hS : va_S A H0 H locs) (hA : ∀ q, H0.size ≤ q → A q)
    (k : Nat) {cI : ClassId} (ht : tys[k]? = some (cI, ty)) {n : Int32} {N' : Nat} (hn : ¬ n < 0) (hN : n.toNatClampNeg = N') (hbytes : N' * componentBytes ty ≤ 536870912) (hcells : cells + 1 ≤ R.cells) (hslots : slots + N' ≤ R.slots) (hdg : decode cc pc = .ok (.newarray atype, 2))
    (kk : ∀ (q : Nat) (H1 : Heap), va_P D cl (ws ++ [(q, .inl (cI, N', .inr (.inl (fun _ => 0))))]) H1 → va_D A (ws ++ [(q, .inl (cI, N', .inr (.inl (fun _ => 0))))]) → va_S A H0 H1 locs → W p l e R s m args below meth c H1 locs (cells + 1) (slots + N') Q (F0 m (pc + 2) ls (.ref q :: rest))) :
    W p l e R s m args below meth c H locs cells slots Q (F0 m pc ls (.int n :: rest)) := by
  refine va_newa hx hb (by rw [hty]; exact harr) hty hK hP hD hS hA (a0 := (N', .inr (.inl (fun _ => 0)))) (fun cA => by rw [vp_cell_l, hdv]) hn hN hbytes hcells hslots hdg (fun q cA H1 hK2 hP2 hD2 hS2 => ?_)
  have h1 := (hK2.2 tys.length (cA, ty) (by simp)).2
  have h2 := (hK.2 k _ ht).2
  have e : cA = cI := hra _ _ h1 h2
  rw [e] at hP2 hD2
  exact kk q H1 hP2 hD2 hS2
theorem MNX.callI {own : String} {nL n index maxL : Nat} {bytes : ByteArray} {y : MethodName} {rm : Room} {As : List Value} {b : Nat} {wc w0 w2 wA : va_W} {wc' : ι → va_W} {v : Option Value}
    (hM : MNX l y bytes maxL none rm D tys (.ref b :: As) wc wc' v) (S : CallFix p m c cc nL s args LW own) (hw1 : Cond.methodLink own index y ∈ LW) (hw2 : Cond.instanceMethod y ∈ LW ∧ Cond.initialized y.cls ∈ LW ∧ Cond.code y bytes maxL none ∈ LW) (hyn : y.name = "<init>")
    (hd : y.cls ≠ "java/lang/invoke/MethodHandle" ∧ y.cls ≠ "java/lang/invoke/VarHandle" ∧ (parseMethodDescriptor y.desc).map (fun d => d.parameters.length) = some n) (hR : rm.frames + 1 ≤ R.frames ∧ 8 + (maxL + 11) + rm.locals ≤ R.locals)
    (hK : va_K D vwCl tys s) (hP : va_P D vwCl wA H) (hD : va_D A0 wA) (hS : va_S A0 s.heap H locs) (hA : ∀ q, s.heap.size ≤ q → A0 q) (hE : EX A0 s s.heap) (hsp : wA = w0 ++ (wc ++ w2))
    (hn : As.length = n) (hls : ls.size = nL) (hst : st0 = As.reverse ++ .ref b :: rest) (hroom : (rest.map fun v => v.category).sum ≤ 8)
    (hdg : decode cc pc = .ok (.invokespecial index, 3)) (hf : cells + rm.cells ≤ R.cells ∧ slots + rm.slots ≤ R.slots)
    (kk : ∀ (x : ι) (H1 : Heap) (locs1 : List Loc), va_P D vwCl (w0 ++ (wc' x ++ w2)) H1 → va_D A0 (w0 ++ (wc' x ++ w2)) → va_S A0 s.heap H1 locs1 → W p l e R s m args below meth c H1 locs1 (cells + rm.cells) (slots + rm.slots) Q (F0 m (pc + 3) ls (v.toList ++ rest))) :
    W p l e R s m args below meth c H locs cells slots Q (F0 m pc ls st0) := by
  have hPc : va_P D vwCl wc H := kb_sub (by rw [← hsp]; exact hP)
  have hDc : va_D (fun _ => True) wc := kb_subD (by rw [← hsp]; exact hD)
  exact run_gon (va_runI S (hM H.size) ⟨callB_of n S.2.2.2.2 (gI hw2.2.2) rfl rfl rfl (S.2.2.2.2 _ hw2.2.1) (S.2.2.2.2 _ hw1) hd hR, hyn, S.2.2.2.2 _ hw2.1⟩ ⟨pwx_blind, fun U hU hW => ⟨rfl, ⟨by rw [hU], by rw [hU]; exact hPc, va_K.moved hW.alike hK, hDc⟩, EX.go hE hS (by rw [← hsp]; exact hD) hA hU hW⟩⟩ rfl hn hls hst (lv_room hroom) hdg hf) hP hD hS hA hsp kk
end KS
theorem shp0 : Shp 0 0 S0 := ⟨by decide, by decide, rfl, rfl, fun d hd => absurd hd (Nat.not_lt_zero d), fun d hd => absurd hd (Nat.not_lt_zero d)⟩
theorem bnd0 (B : Nat) : Bnd B S0 := ⟨fun f _ => ⟨0, Nat.zero_le _, rfl⟩, fun f _ => ⟨0, Nat.zero_le _, rfl⟩, fun f _ => ⟨0, Nat.zero_le _, rfl⟩, ⟨0, Nat.zero_le _, rfl⟩, fun f _ => Or.inl rfl, fun f _ => Or.inl rfl, fun f _ => Or.inl rfl⟩
