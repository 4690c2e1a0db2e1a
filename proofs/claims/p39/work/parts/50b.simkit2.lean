-- OWN KIT Y: contracts whose answer and world behind are known up to some x; the script may be asked for
abbrev SO : Type := Option (Nat × Nat × (Nat → Int32))
def EZ (o : SO) (A : Nat → Prop) (U : State) (H : Heap) : Prop := match o with
  | none => True
  | some z => va_X z.1 z.2.1 z.2.2 U H ∧ z.1 < H.size ∧ ¬ A z.1
def EY (o : SO) (A : Nat → Prop) (U : State) (H : Heap) : Prop := EX A U H ∧ EZ o A U H
theorem EZ.moved {o : SO} {A : Nat → Prop} {s U : State} {H : Heap} (hv : s.vm.Alike U.vm) (h : EZ o A s H) : EZ o A U H := by
  cases o with
  | none => trivial
  | some z => exact ⟨h.1.moved hv, h.2⟩
theorem EZ.kept {o : SO} {A : Nat → Prop} {s : State} {H H1 : Heap} (h : EZ o A s H) (hs : H.size ≤ H1.size) (hq : ∀ a : Nat, a < H.size → ¬ A a → H1[a]? = H[a]?) : EZ o A s H1 := by
  cases o with
  | none => trivial
  | some z => exact ⟨h.1.kept (hq z.1 h.2.1 h.2.2), Nat.lt_of_lt_of_le h.2.1 hs, h.2.2⟩
theorem EZ.narrow {o : SO} {A B : Nat → Prop} {s : State} {H : Heap} (h : EZ o A s H) (hAB : ∀ q, B q → A q) : EZ o B s H := by
  cases o with
  | none => trivial
  | some z => exact ⟨h.1, h.2.1, fun x => h.2.2 (hAB _ x)⟩
def pwy (o : SO) (D : va_G) (tys : List (ClassId × FieldType)) (wc : va_W) (sz : Nat) (U : State) : Prop := pw D tys wc sz U ∧ EY o (va_A wc sz) U U.heap
def qvy {ι : Type} (D : va_G) (tys : List (ClassId × FieldType)) (A : Nat → Prop) (wc' : ι → va_W) (v : ι → Option Value) : Array Value → State → Outcome → State → Prop := fun _ st o t => (∃ x : ι, o = .returned (v x) ∧ va_P D vwCl (wc' x) t.heap ∧ va_K D vwCl tys t ∧ va_D A (wc' x)) ∧ va_F A st t
def MY {ι : Type} (o : SO) (l : Launch) (y : MethodName) (c : ByteArray) (n : Nat) (r : Option FieldType) (rm : Room) (D : va_G) (tys : List (ClassId × FieldType)) (av : List Value) (wc : va_W) (wc' : ι → va_W) (v : ι → Option Value) : Prop := ∀ sz, Met l y (wL y c n r) rm (va_Pc av (pwy o D tys wc sz)) (qvy D tys (va_A wc sz) wc' v) rm.cells rm.slots (va_A wc sz)
theorem pwy_blind {o : SO} {D : va_G} {tys : List (ClassId × FieldType)} {av : List Value} {wc : va_W} {sz : Nat} : FrameBlind (va_Pc av (pwy o D tys wc sz)) := fun a U g mk q => by
  obtain ⟨q0, ⟨q1, qP, qK, qD⟩, qE, qZ⟩ := q
  exact ⟨q0, ⟨q1, qP, va_K.moved (u := U) (U := U.calling g mk a) (Vm.Alike.refl U.vm) qK, qD⟩, EX.same (s := U) (U := U.calling g mk a) rfl qE, EZ.moved (s := U) (U := U.calling g mk a) (Vm.Alike.refl U.vm) qZ⟩
section KY
variable {p : Program} {l : Launch} {e : Env} {R : Room} {s : State} {m : MethodId} {args : Array Value} {below : List Frame} {meth : Method} {c : Code} {H : Heap} {locs : List Loc} {cells slots : Nat} {Q : State → Prop}
variable {D : va_G} {tys : List (ClassId × FieldType)} {A A0 : Nat → Prop} {pc : Nat} {ls : Array Slot} {rest st0 : List Value} {cc : ByteArray} {ι : Type} {o : SO}
theorem EY.go {wc w0 w2 : va_W} (hE : EY o A0 s s.heap) (hS : va_S A0 s.heap H locs) (hD : va_D A0 (w0 ++ (wc ++ w2))) (hA : ∀ q, s.heap.size ≤ q → A0 q) {U : State} (hU : U.heap = H) (hW : s.WarmedH U.vm) : EY o (va_A wc H.size) U U.heap := by
  refine ⟨EX.go hE.1 hS hD hA hU hW, ?_⟩
  rw [hU]
  exact ((hE.2.kept hS.1 hS.2.1).narrow (kb_free hD hS hA)).moved hW.alike
theorem EY.non (h : EX A s H) : EY none A s H := ⟨h, trivial⟩
theorem MY.of {y : MethodName} {rm : Room} {av : List Value} {wc : va_W} {wc' : ι → va_W} {v : ι → Option Value} {maxL : Nat} {ret : Option FieldType}
    (hy : plainName y.cls = true) (hlen : (lg_sl av).length ≤ maxL)
    (body : ∀ (p : Program) (e : Env) (s : State) (m : MethodId) (args : Array Value) (below : List Frame) (meth : Method) (c : Code) (A : Nat → Prop) (ls : Array Slot) (Q : State → Prop),
      p.tables.exec = Jvm.exec → c.code = cc → c.maxLocals = maxL → meth.sig.returnType = ret → (∀ w ∈ LW, w.before args s = true) → s.vm.findClass y.cls = some m.cls → meth.locks = false →
      (∀ q : Nat, s.heap.size ≤ q → A q) → va_P D vwCl wc s.heap → va_D A wc → va_K D vwCl tys s → va_S A s.heap s.heap [] → lv_has ls maxL (lv_args 0 av) → Q = MQ below (qvy D tys A wc' v) args s rm.cells rm.slots A → EY o A s s.heap → meth.name = y.name →
      W p l e rm s m args below meth c s.heap [] 0 0 Q (F0 m 0 ls [])) : MY o l y cc maxL ret rm D tys av wc wc' v := by
  intro sz
  refine Met.ofW (cc := cc) (maxL := maxL) (ret := ret) hy rfl ?_
  intro p e s m args below meth c s₁ B hml hv
  obtain ⟨rfl, ⟨hsz, hP, hK, hD0⟩, hE⟩ := hv
  subst hsz
  rw [lg_entry_eq]
  exact body p e s m av.toArray below meth c (va_A wc s.heap.size) _ _ B.exec B.bytes hml B.returns (fun w h => atoms_spec (ws := wL y cc maxL ret) B.pre w (List.mem_cons_of_mem _ h)) (findClass_of_methodNamed B.named) B.notSynchronized (fun q h => Or.inr h) hP hD0.self hK va_S.rf (lv_entry av hlen) rfl hE (name_of_methodNamed B.named B.method).1
theorem run_goy {wc w0 w2 wA : va_W} {wc' wB : ι → va_W} {v : ι → Option Value} {mc ms : Nat} {a : Array Value} {H0 : Heap}
    (hr : va_Run p l e R s m args below meth c H locs cells slots mc ms (F0 m pc ls st0) rest (qvy D tys (va_A wc H.size) wc' v a) (va_A wc H.size))
    (hP : va_P D vwCl wA H) (hD : va_D A0 wA) (hS : va_S A0 H0 H locs) (hA : ∀ q, H0.size ≤ q → A0 q) (hsp : wA = w0 ++ (wc ++ w2)) (hsp' : ∀ x, wB x = w0 ++ (wc' x ++ w2))
    (kk : ∀ (x : ι) (H1 : Heap) (locs1 : List Loc), va_P D vwCl (wB x) H1 → va_D A0 (wB x) → va_S A0 H0 H1 locs1 → W p l e R s m args below meth c H1 locs1 (cells + mc) (slots + ms) Q (F0 m (pc + 3) ls ((v x).toList ++ rest))) :
    W p l e R s m args below meth c H locs cells slots Q (F0 m pc ls st0) := by
  subst hsp
  have hf := kb_free hD hS hA
  intro T hT X
  obtain ⟨v', st₀, t, T', L, h0, X', hL, e1, e2, ⟨⟨x, hv, hP1, hK1, hD1⟩, hz, hk⟩, st⟩ := hr T hT X
  cases hv
  rw [h0] at hz hk
  rw [← e1] at hP1 hz hk
  obtain ⟨j1, j2⟩ := kb_join hP hD hk hP1 hD1 hf
  rw [← hsp' x] at j1 j2
  obtain ⟨t2, a1, b1⟩ := kk x T'.heap (locs ++ L) j1 j2
    ⟨Nat.le_trans hS.1 hz, fun q h1 h2 => by rw [hk q (Nat.lt_of_lt_of_le h1 hS.1) (fun z => h2 (hf q z))]; exact hS.2.1 q h1 h2, fun q hq => by
      rcases List.mem_append.mp hq with h | h
      · exact hS.2.2 q h
      · exact hf _ (hL q h)⟩ T' rfl X'
  exact ⟨t2, st t2 a1, b1⟩
theorem at_0 {wA w0 wc w2 : va_W} {x : Nat × va_E} (hsp : wA = w0 ++ (wc ++ w2)) (h : wc[0]? = some x) : wA[w0.length + 0]? = some x := by
  rw [hsp, mid_at (List.getElem?_eq_some_iff.mp h).1]; exact h
theorem MC.callV0 {own C : String} {T : u_T} {N ci nL n index maxL : Nat} {bytes : ByteArray} {ret : Option FieldType} {y : MethodName} {rm : Room} {As : List Value} {b : Nat} {fs : List Value} {wc wc' w0 w2 wA wB : va_W} {v : Option Value} {H0 : Heap}
    (hM : MC l y bytes maxL ret rm D tys (.ref b :: As) wc wc' v) (S : CallFix p m c cc nL s args LW own) (hw1 : Cond.methodLink own index y ∈ LW) (hw2 : Cond.instanceMethod y ∈ LW ∧ Cond.selects C y y ∈ LW ∧ Cond.initialized C ∈ LW ∧ Cond.code y bytes maxL ret ∈ LW)
    (hd : y.cls = C ∧ y.cls ≠ "java/lang/invoke/MethodHandle" ∧ y.cls ≠ "java/lang/invoke/VarHandle" ∧ (parseMethodDescriptor y.desc).map (fun d => d.parameters.length) = some n) (hR : rm.frames + 1 ≤ R.frames ∧ 8 + (maxL + 11) + rm.locals ≤ R.locals)
    (hK : va_K D vwCl tys s) (hP : va_P D vwCl wA H) (hD : va_D A0 wA) (hS : va_S A0 H0 H locs) (hA : ∀ q, H0.size ≤ q → A0 q) (hsp : wA = w0 ++ (wc ++ w2)) (hsp' : wB = w0 ++ (wc' ++ w2))
    (hci : vwCl[ci]? = some (C, T, N)) (hrec : wc[0]? = some (b, .inr (ci, fs))) (hn : As.length = n) (hls : ls.size = nL) (hst : st0 = As.reverse ++ .ref b :: rest) (hroom : (rest.map fun v => v.category).sum ≤ 8)
    (hdg : decode cc pc = .ok (.invokevirtual index, 3)) (hf : cells + rm.cells ≤ R.cells ∧ slots + rm.slots ≤ R.slots)
    (kk : ∀ (H1 : Heap) (locs1 : List Loc), va_P D vwCl wB H1 → va_D A0 wB → va_S A0 H0 H1 locs1 → W p l e R s m args below meth c H1 locs1 (cells + rm.cells) (slots + rm.slots) Q (F0 m (pc + 3) ls (v.toList ++ rest))) :
    W p l e R s m args below meth c H locs cells slots Q (F0 m pc ls st0) :=
  MC.callV hM S hw1 hw2 hd hR hK hP hD hS hA hsp hsp' hci (at_0 hsp hrec) hn hls hst hroom hdg hf kk
theorem MX.callV0 {own C : String} {T : u_T} {N ci nL n index maxL : Nat} {bytes : ByteArray} {ret : Option FieldType} {y : MethodName} {rm : Room} {As : List Value} {b : Nat} {fs : List Value} {wc w0 w2 wA : va_W} {wc' wB : Sg → va_W} {v : Option Value}
    (hM : MX l y bytes maxL ret rm D tys (.ref b :: As) wc wc' v) (S : CallFix p m c cc nL s args LW own) (hw1 : Cond.methodLink own index y ∈ LW) (hw2 : Cond.instanceMethod y ∈ LW ∧ Cond.selects C y y ∈ LW ∧ Cond.initialized C ∈ LW ∧ Cond.code y bytes maxL ret ∈ LW)
    (hd : y.cls = C ∧ y.cls ≠ "java/lang/invoke/MethodHandle" ∧ y.cls ≠ "java/lang/invoke/VarHandle" ∧ (parseMethodDescriptor y.desc).map (fun d => d.parameters.length) = some n) (hR : rm.frames + 1 ≤ R.frames ∧ 8 + (maxL + 11) + rm.locals ≤ R.locals)
    (hK : va_K D vwCl tys s) (hP : va_P D vwCl wA H) (hD : va_D A0 wA) (hS : va_S A0 s.heap H locs) (hA : ∀ q, s.heap.size ≤ q → A0 q) (hE : EX A0 s s.heap) (hsp : wA = w0 ++ (wc ++ w2)) (hsp' : ∀ ρ, wB ρ = w0 ++ (wc' ρ ++ w2))
    (hci : vwCl[ci]? = some (C, T, N)) (hrec : wc[0]? = some (b, .inr (ci, fs))) (hn : As.length = n) (hls : ls.size = nL) (hst : st0 = As.reverse ++ .ref b :: rest) (hroom : (rest.map fun v => v.category).sum ≤ 8)
    (hdg : decode cc pc = .ok (.invokevirtual index, 3)) (hf : cells + rm.cells ≤ R.cells ∧ slots + rm.slots ≤ R.slots)
    (kk : ∀ (ρ : Sg) (H1 : Heap) (locs1 : List Loc), va_P D vwCl (wB ρ) H1 → va_D A0 (wB ρ) → va_S A0 s.heap H1 locs1 → W p l e R s m args below meth c H1 locs1 (cells + rm.cells) (slots + rm.slots) Q (F0 m (pc + 3) ls (v.toList ++ rest))) :
    W p l e R s m args below meth c H locs cells slots Q (F0 m pc ls st0) :=
  MX.callV hM S hw1 hw2 hd hR hK hP hD hS hA hE hsp hsp' hci (at_0 hsp hrec) hn hls hst hroom hdg hf kk
theorem MY.callV0 {own C : String} {T : u_T} {N ci nL n index maxL : Nat} {bytes : ByteArray} {ret : Option FieldType} {y : MethodName} {rm : Room} {As : List Value} {b : Nat} {fs : List Value} {wc w0 w2 wA : va_W} {wc' wB : ι → va_W} {v : ι → Option Value}
    (hM : MY o l y bytes maxL ret rm D tys (.ref b :: As) wc wc' v) (S : CallFix p m c cc nL s args LW own) (hw1 : Cond.methodLink own index y ∈ LW) (hw2 : Cond.instanceMethod y ∈ LW ∧ Cond.selects C y y ∈ LW ∧ Cond.initialized C ∈ LW ∧ Cond.code y bytes maxL ret ∈ LW)
    (hd : y.cls = C ∧ y.cls ≠ "java/lang/invoke/MethodHandle" ∧ y.cls ≠ "java/lang/invoke/VarHandle" ∧ (parseMethodDescriptor y.desc).map (fun d => d.parameters.length) = some n) (hR : rm.frames + 1 ≤ R.frames ∧ 8 + (maxL + 11) + rm.locals ≤ R.locals)
    (hK : va_K D vwCl tys s) (hP : va_P D vwCl wA H) (hD : va_D A0 wA) (hS : va_S A0 s.heap H locs) (hA : ∀ q, s.heap.size ≤ q → A0 q) (hE : EY o A0 s s.heap) (hsp : wA = w0 ++ (wc ++ w2)) (hsp' : ∀ x, wB x = w0 ++ (wc' x ++ w2))
    (hci : vwCl[ci]? = some (C, T, N)) (hrec0 : wc[0]? = some (b, .inr (ci, fs))) (hn : As.length = n) (hls : ls.size = nL) (hst : st0 = As.reverse ++ .ref b :: rest) (hroom : (rest.map fun v => v.category).sum ≤ 8)
    (hdg : decode cc pc = .ok (.invokevirtual index, 3)) (hf : cells + rm.cells ≤ R.cells ∧ slots + rm.slots ≤ R.slots)
    (kk : ∀ (x : ι) (H1 : Heap) (locs1 : List Loc), va_P D vwCl (wB x) H1 → va_D A0 (wB x) → va_S A0 s.heap H1 locs1 → W p l e R s m args below meth c H1 locs1 (cells + rm.cells) (slots + rm.slots) Q (F0 m (pc + 3) ls ((v x).toList ++ rest))) :
    W p l e R s m args below meth c H locs cells slots Q (F0 m pc ls st0) := by
  have hPc : va_P D vwCl wc H := kb_sub (by rw [← hsp]; exact hP)
  have hDc : va_D (fun _ => True) wc := kb_subD (by rw [← hsp]; exact hD)
  exact run_goy (va_runV S (hM H.size) (cwV n S.2.2.2.2 (gV hw1 hw2) rfl rfl rfl hd hR) ⟨pwy_blind, va_recv hK hP hci (at_0 hsp hrec0), fun U hU hW => ⟨rfl, ⟨by rw [hU], by rw [hU]; exact hPc, va_K.moved hW.alike hK, hDc⟩, EY.go hE hS (by rw [← hsp]; exact hD) hA hU hW⟩⟩ rfl hn hls hst (lv_room hroom) hdg hf) hP hD hS hA hsp hsp' kk
theorem MY.callS {own : String} {nL n index maxL : Nat} {bytes : ByteArray} {ret : Option FieldType} {y : MethodName} {rm : Room} {As : List Value} {wc w0 w2 wA : va_W} {wc' wB : ι → va_W} {v : ι → Option Value}
    (hM : MY o l y bytes maxL ret rm D tys As wc wc' v) (S : CallFix p m c cc nL s args LW own) (hw1 : Cond.methodLink own index y ∈ LW) (hw2 : Cond.static y ∈ LW ∧ Cond.initialized y.cls ∈ LW ∧ Cond.code y bytes maxL ret ∈ LW)
    (hd : y.cls ≠ "java/lang/invoke/MethodHandle" ∧ y.cls ≠ "java/lang/invoke/VarHandle" ∧ (parseMethodDescriptor y.desc).map (fun d => d.parameters.length) = some n) (hR : rm.frames + 1 ≤ R.frames ∧ 8 + (maxL + 11) + rm.locals ≤ R.locals)
    (hK : va_K D vwCl tys s) (hP : va_P D vwCl wA H) (hD : va_D A0 wA) (hS : va_S A0 s.heap H locs) (hA : ∀ q, s.heap.size ≤ q → A0 q) (hE : EY o A0 s s.heap) (hsp : wA = w0 ++ (wc ++ w2)) (hsp' : ∀ x, wB x = w0 ++ (wc' x ++ w2))
    (hn : As.length = n) (hls : ls.size = nL) (hst : st0 = As.reverse ++ rest) (hroom : (rest.map fun v => v.category).sum ≤ 8)
    (hdg : decode cc pc = .ok (.invokestatic index, 3)) (hf : cells + rm.cells ≤ R.cells ∧ slots + rm.slots ≤ R.slots)
    (kk : ∀ (x : ι) (H1 : Heap) (locs1 : List Loc), va_P D vwCl (wB x) H1 → va_D A0 (wB x) → va_S A0 s.heap H1 locs1 → W p l e R s m args below meth c H1 locs1 (cells + rm.cells) (slots + rm.slots) Q (F0 m (pc + 3) ls ((v x).toList ++ rest))) :
    W p l e R s m args below meth c H locs cells slots Q (F0 m pc ls st0) := by
  have hPc : va_P D vwCl wc H := kb_sub (by rw [← hsp]; exact hP)
  have hDc : va_D (fun _ => True) wc := kb_subD (by rw [← hsp]; exact hD)
  exact run_goy (va_runS S (hM H.size) (va_cwS n S.2.2.2.2 (gS hw1 hw2) rfl rfl rfl hd hR) ⟨pwy_blind, fun U hU hW => ⟨rfl, ⟨by rw [hU], by rw [hU]; exact hPc, va_K.moved hW.alike hK, hDc⟩, EY.go hE hS (by rw [← hsp]; exact hD) hA hU hW⟩⟩ rfl hn hls hst (lv_room hroom) hdg hf) hP hD hS hA hsp hsp' kk
theorem gI {y : MethodName} {bt : ByteArray} {r : Option FieldType} {n : Nat} (h : Cond.code y bt n r ∈ LW) : GoodIn LW (wL y bt n r) := by
  intro w hw
  refine LW_good w ?_
  simp only [wL, List.mem_cons] at hw
  rcases hw with rfl | h2 <;> assumption
theorem MY.callI {own : String} {nL n index maxL : Nat} {bytes : ByteArray} {y : MethodName} {rm : Room} {As : List Value} {b : Nat} {wc w0 w2 wA : va_W} {wc' wB : ι → va_W} {v : ι → Option Value}
    (hM : MY o l y bytes maxL none rm D tys (.ref b :: As) wc wc' v) (S : CallFix p m c cc nL s args LW own) (hw1 : Cond.methodLink own index y ∈ LW) (hw2 : Cond.instanceMethod y ∈ LW ∧ Cond.initialized y.cls ∈ LW ∧ Cond.code y bytes maxL none ∈ LW) (hyn : y.name = "<init>")
    (hd : y.cls ≠ "java/lang/invoke/MethodHandle" ∧ y.cls ≠ "java/lang/invoke/VarHandle" ∧ (parseMethodDescriptor y.desc).map (fun d => d.parameters.length) = some n) (hR : rm.frames + 1 ≤ R.frames ∧ 8 + (maxL + 11) + rm.locals ≤ R.locals)
    (hK : va_K D vwCl tys s) (hP : va_P D vwCl wA H) (hD : va_D A0 wA) (hS : va_S A0 s.heap H locs) (hA : ∀ q, s.heap.size ≤ q → A0 q) (hE : EY o A0 s s.heap) (hsp : wA = w0 ++ (wc ++ w2)) (hsp' : ∀ x, wB x = w0 ++ (wc' x ++ w2))
    (hn : As.length = n) (hls : ls.size = nL) (hst : st0 = As.reverse ++ .ref b :: rest) (hroom : (rest.map fun v => v.category).sum ≤ 8)
    (hdg : decode cc pc = .ok (.invokespecial index, 3)) (hf : cells + rm.cells ≤ R.cells ∧ slots + rm.slots ≤ R.slots)
    (kk : ∀ (x : ι) (H1 : Heap) (locs1 : List Loc), va_P D vwCl (wB x) H1 → va_D A0 (wB x) → va_S A0 s.heap H1 locs1 → W p l e R s m args below meth c H1 locs1 (cells + rm.cells) (slots + rm.slots) Q (F0 m (pc + 3) ls ((v x).toList ++ rest))) :
    W p l e R s m args below meth c H locs cells slots Q (F0 m pc ls st0) := by
  have hPc : va_P D vwCl wc H := kb_sub (by rw [← hsp]; exact hP)
  have hDc : va_D (fun _ => True) wc := kb_subD (by rw [← hsp]; exact hD)
  exact run_goy (va_runI S (hM H.size) ⟨callB_of n S.2.2.2.2 (gI hw2.2.2) rfl rfl rfl (S.2.2.2.2 _ hw2.2.1) (S.2.2.2.2 _ hw1) hd hR, hyn, S.2.2.2.2 _ hw2.1⟩ ⟨pwy_blind, fun U hU hW => ⟨rfl, ⟨by rw [hU], by rw [hU]; exact hPc, va_K.moved hW.alike hK, hDc⟩, EY.go hE hS (by rw [← hsp]; exact hD) hA hU hW⟩⟩ rfl hn hls hst (lv_room hroom) hdg hf) hP hD hS hA hsp hsp' kk
theorem MY.callIN {own host : String} {nL n index maxL : Nat} {bytes : ByteArray} {y : MethodName} {rm : Room} {As : List Value} {b : Nat} {wc w0 w2 wA : va_W} {wc' wB : ι → va_W} {v : ι → Option Value}
    (hM : MY o l y bytes maxL none rm D tys (.ref b :: As) wc wc' v) (S : CallFix p m c cc nL s args LW own) (hw1 : va_Nw (Cond.methodLinkNest own index y host) s) (hw2 : Cond.instanceMethod y ∈ LW ∧ Cond.initialized y.cls ∈ LW ∧ Cond.code y bytes maxL none ∈ LW) (hyn : y.name = "<init>")
    (hd : y.cls ≠ "java/lang/invoke/MethodHandle" ∧ y.cls ≠ "java/lang/invoke/VarHandle" ∧ (parseMethodDescriptor y.desc).map (fun d => d.parameters.length) = some n) (hR : rm.frames + 1 ≤ R.frames ∧ 8 + (maxL + 11) + rm.locals ≤ R.locals)
    (hK : va_K D vwCl tys s) (hP : va_P D vwCl wA H) (hD : va_D A0 wA) (hS : va_S A0 s.heap H locs) (hA : ∀ q, s.heap.size ≤ q → A0 q) (hE : EY o A0 s s.heap) (hsp : wA = w0 ++ (wc ++ w2)) (hsp' : ∀ x, wB x = w0 ++ (wc' x ++ w2))
    (hn : As.length = n) (hls : ls.size = nL) (hst : st0 = As.reverse ++ .ref b :: rest) (hroom : (rest.map fun v => v.category).sum ≤ 8)
    (hdg : decode cc pc = .ok (.invokespecial index, 3)) (hf : cells + rm.cells ≤ R.cells ∧ slots + rm.slots ≤ R.slots)
    (kk : ∀ (x : ι) (H1 : Heap) (locs1 : List Loc), va_P D vwCl (wB x) H1 → va_D A0 (wB x) → va_S A0 s.heap H1 locs1 → W p l e R s m args below meth c H1 locs1 (cells + rm.cells) (slots + rm.slots) Q (F0 m (pc + 3) ls ((v x).toList ++ rest))) :
    W p l e R s m args below meth c H locs cells slots Q (F0 m pc ls st0) := by
  have hPc : va_P D vwCl wc H := kb_sub (by rw [← hsp]; exact hP)
  have hDc : va_D (fun _ => True) wc := kb_subD (by rw [← hsp]; exact hD)
  exact run_goy (va_runIN S (hM H.size) ⟨va_cnB n S.2.2.2.2 (gI hw2.2.2) rfl rfl rfl hw1 (S.2.2.2.2 _ hw2.2.1) hd hR, hyn, S.2.2.2.2 _ hw2.1⟩ ⟨pwy_blind, fun U hU hW => ⟨rfl, ⟨by rw [hU], by rw [hU]; exact hPc, va_K.moved hW.alike hK, hDc⟩, EY.go hE hS (by rw [← hsp]; exact hD) hA hU hW⟩⟩ rfl hn hls hst (lv_room hroom) hdg hf) hP hD hS hA hsp hsp' kk
-- the ends
variable {wc : va_W} {wc' : ι → va_W} {v : ι → Option Value}
theorem yi {r : Int32} (x : ι) (hx : p.tables.exec = Jvm.exec) (hb : c.code = cc) (hr : meth.sig.returnType = some .int) (hlocks : meth.locks = false) (hK : va_K D vwCl tys s) (hP : va_P D vwCl wc H) (hD : va_D A wc) (hS : va_S A s.heap H locs) (hdg : decode cc pc = .ok (.ireturn, 1)) (hw : wc = wc' x) (hv : some (Value.int r) = v x) :
    W p l e R s m args below meth c H locs cells slots (MQ below (qvy D tys A wc' v) args s cells slots A) (F0 m pc ls [.int r]) := by
  subst hw
  exact W.iret hx hb hr (fun t ht hW => ⟨⟨x, by rw [hv], by rw [ht]; exact hP, va_K.moved hW.alike hK, hD⟩, hS.F ht⟩) hS.2.2 hdg hlocks
theorem yz {r : Int32} (x : ι) (hx : p.tables.exec = Jvm.exec) (hb : c.code = cc) (hr : meth.sig.returnType = some .boolean) (hlocks : meth.locks = false) (hK : va_K D vwCl tys s) (hP : va_P D vwCl wc H) (hD : va_D A wc) (hS : va_S A s.heap H locs) (hdg : decode cc pc = .ok (.ireturn, 1)) (h01 : r = 0 ∨ r = 1) (hw : wc = wc' x) (hv : some (Value.int r) = v x) :
    W p l e R s m args below meth c H locs cells slots (MQ below (qvy D tys A wc' v) args s cells slots A) (F0 m pc ls [.int r]) := by
  subst hw
  exact W.zret hx hb hr (by rcases h01 with rfl | rfl <;> rfl) (fun t ht hW => ⟨⟨x, by rw [hv], by rw [ht]; exact hP, va_K.moved hW.alike hK, hD⟩, hS.F ht⟩) hS.2.2 hdg hlocks
theorem yv (x : ι) (hx : p.tables.exec = Jvm.exec) (hb : c.code = cc) (hr : meth.sig.returnType = none) (hlocks : meth.locks = false) (hK : va_K D vwCl tys s) (hP : va_P D vwCl wc H) (hD : va_D A wc) (hS : va_S A s.heap H locs) (hdg : decode cc pc = .ok (.return_, 1)) (hw : wc = wc' x) (hv : none = v x) :
    W p l e R s m args below meth c H locs cells slots (MQ below (qvy D tys A wc' v) args s cells slots A) (F0 m pc ls []) := by
  subst hw
  exact W.vret hx hb hr (fun t ht hW => ⟨⟨x, by rw [hv], by rw [ht]; exact hP, va_K.moved hW.alike hK, hD⟩, hS.F ht⟩) hS.2.2 hdg hlocks
theorem ya {r : Nat} {rt : FieldType} (x : ι) (hx : p.tables.exec = Jvm.exec) (hb : c.code = cc) (hr : meth.sig.returnType = some rt) (hrt : (∃ n, rt = .object n) ∨ ∃ t, rt = .array t) (hlocks : meth.locks = false) (hK : va_K D vwCl tys s) (hP : va_P D vwCl wc H) (hD : va_D A wc) (hS : va_S A s.heap H locs) (hdg : decode cc pc = .ok (.areturn, 1)) (hw : wc = wc' x) (hv : some (Value.ref r) = v x) :
    W p l e R s m args below meth c H locs cells slots (MQ below (qvy D tys A wc' v) args s cells slots A) (F0 m pc ls [.ref r]) := by
  subst hw
  exact W.aret hx hb hr hrt (Or.inr ⟨r, rfl⟩) (fun t ht hW => ⟨⟨x, by rw [hv], by rw [ht]; exact hP, va_K.moved hW.alike hK, hD⟩, hS.F ht⟩) hS.2.2 hdg hlocks
end KY
