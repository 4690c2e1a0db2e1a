-- OWN KIT 2: what a class that throws needs besides its words; methods that throw for sure
abbrev tyT : String := "java/lang/Throwable"
def EXW : List Cond := [.fieldLinkNest RX1 48 RX0 "opens" "[Z" RX1, .fieldLinkNest RX1 52 RX0 "rainfall" "I" RX1, .fieldLinkNest RX1 60 RX0 "waters" "[I" RX1, .fieldLinkNest RX1 71 RX0 "clock" "I" RX1, .fieldLinkNest RX1 74 RX0 "fieldCount" "I" RX1, .fieldLinkNest RX1 77 RX0 "drainCount" "I" RX1, .fieldLinkNest RX1 80 RX0 "toSea" "I" RX1, .fieldLinkNest RX1 94 RX0 "wetHours" "[I" RX1, .fieldLinkNest RX1 97 RX0 "ruined" "[Z" RX1, .fieldLinkNest RX1 100 RX0 "froms" "[I" RX1, .fieldLinkNest RX1 103 RX0 "tos" "[I" RX1, .fieldLinkNest RX1 114 RX0 "pumps" "[Z" RX1, .fieldLinkNest RX1 117 RX0 "carried" "[I" RX1,
  .declares (Bundle.initS "java/lang/RuntimeException"), .declares (Bundle.initS "java/lang/Exception"), .declares (Bundle.initS "java/lang/Throwable"),
  .castable "java/lang/IllegalArgumentException" "java/lang/IllegalArgumentException", .castable "java/lang/IllegalStateException" "java/lang/IllegalStateException", .castable "java/lang/IndexOutOfBoundsException" "java/lang/IndexOutOfBoundsException",
  .methodLinkNest RX1 9 yX0_init RX1]
def EXC : List (String × String) := [("java/lang/IllegalArgumentException", "java/lang/IllegalStateException"), ("java/lang/IllegalArgumentException", "java/lang/IndexOutOfBoundsException"), ("java/lang/IllegalStateException", "java/lang/IllegalArgumentException"), ("java/lang/IllegalStateException", "java/lang/IndexOutOfBoundsException"), ("java/lang/IndexOutOfBoundsException", "java/lang/IllegalArgumentException"), ("java/lang/IndexOutOfBoundsException", "java/lang/IllegalStateException")]
def EXS : List (Nat × String) := [(29, "there are ten fields"), (221, "a drain leads from a field to another one"), (227, "there are sixteen drains"), (234, "there is no such field"), (240, "there is no such drain"), (242, "a number is outside its bounds")]
def EX (A : Nat → Prop) (U : State) (H : Heap) : Prop := (∀ w ∈ EXW, va_Nw w U) ∧ (∀ q ∈ EXC, va_Nc q.1 q.2 U) ∧ (∀ q ∈ EXS, ∃ sa, vk_R RX1 q.1 q.2 sa U) ∧ vx_Zq Bundle.tN "UNASSIGNED_STACK" Bundle.steD A U H ∧ vx_Zq Bundle.tN "SUPPRESSED_SENTINEL" Bundle.listD A U H
theorem EXW_ok : EXW.all (fun w => w.onTables) = true := by decide +kernel
theorem EXW_warm {s U : State} (hW : s.WarmedH U.vm) (h : ∀ w ∈ EXW, va_Nw w s) : ∀ w ∈ EXW, va_Nw w U := by
  intro w hw
  have h0 := h w hw
  simp only [EXW, List.mem_cons, List.not_mem_nil, or_false] at hw
  rcases hw with rfl | rfl | rfl | rfl | rfl | rfl | rfl | rfl | rfl | rfl | rfl | rfl | rfl | rfl | rfl | rfl | rfl | rfl | rfl | rfl
  all_goals first | exact va_Nw.warmF hW h0 | exact va_Nw.warmD hW h0 | exact va_Nw.warmC hW h0 | exact va_Nw.warmM hW h0
theorem EX.warm {A : Nat → Prop} {s U : State} {H : Heap} (hW : s.WarmedH U.vm) (h : EX A s H) : EX A U H := by
  obtain ⟨h1, h2, h3, h4, h5⟩ := h
  exact ⟨EXW_warm hW h1, fun q hq => (h2 q hq).moved hW.alike, fun q hq => by obtain ⟨sa, g⟩ := h3 q hq; exact ⟨sa, vk_R.warm hW g⟩, h4.moved hW.alike, h5.moved hW.alike⟩
theorem EX.same {A : Nat → Prop} {s U : State} {H : Heap} (hv : U.vm = s.vm) (h : EX A s H) : EX A U H := by
  obtain ⟨h1, h2, h3, h4, h5⟩ := h
  have ha : s.vm.Alike U.vm := by rw [hv]; exact Vm.Alike.refl _
  exact ⟨fun w hw => (h1 w hw).same (List.all_eq_true.mp EXW_ok w hw) hv.symm, fun q hq => (h2 q hq).moved ha, fun q hq => by obtain ⟨sa, g⟩ := h3 q hq; exact ⟨sa, vk_R.same hv g⟩, h4.moved ha, h5.moved ha⟩
theorem EX.kept {A : Nat → Prop} {s : State} {H H1 : Heap} (h : EX A s H) (hq : ∀ a : Nat, a < H.size → ¬ A a → H1[a]? = H[a]?) : EX A s H1 := by
  obtain ⟨h1, h2, h3, h4, h5⟩ := h
  exact ⟨h1, h2, h3, h4.kept hq, h5.kept hq⟩
theorem EX.narrow {A B : Nat → Prop} {s : State} {H : Heap} (h : EX A s H) (hAB : ∀ q, B q → A q) : EX B s H := by
  obtain ⟨h1, h2, h3, h4, h5⟩ := h
  exact ⟨h1, h2, h3, h4.narrow hAB, h5.narrow hAB⟩
theorem EX.w {A : Nat → Prop} {s : State} {H : Heap} (h : EX A s H) (i : Nat) {w : Cond} (hw : EXW[i]? = some w) : va_Nw w s := h.1 w (List.mem_of_getElem? hw)
theorem EX.n {A : Nat → Prop} {s : State} {H : Heap} (h : EX A s H) (i : Nat) {q : String × String} (hw : EXC[i]? = some q) : va_Nc q.1 q.2 s := h.2.1 q (List.mem_of_getElem? hw)
theorem EX.s {A : Nat → Prop} {s : State} {H : Heap} (h : EX A s H) (i : Nat) {q : Nat × String} (hw : EXS[i]? = some q) : ∃ sa, vk_R RX1 q.1 q.2 sa s := h.2.2.1 q (List.mem_of_getElem? hw)
def pwx (D : va_G) (tys : List (ClassId × FieldType)) (wc : va_W) (sz : Nat) (U : State) : Prop := pw D tys wc sz U ∧ EX (va_A wc sz) U U.heap
/-- the end, where one state of the world is any -/
def qvx (D : va_G) (tys : List (ClassId × FieldType)) (A : Nat → Prop) (wc' : Sg → va_W) (v : Option Value) : Array Value → State → Outcome → State → Prop := fun _ st o t => (∃ ρ : Sg, o = .returned v ∧ va_P D vwCl (wc' ρ) t.heap ∧ va_K D vwCl tys t ∧ va_D A (wc' ρ)) ∧ va_F A st t
def MX (l : Launch) (y : MethodName) (c : ByteArray) (n : Nat) (r : Option FieldType) (rm : Room) (D : va_G) (tys : List (ClassId × FieldType)) (av : List Value) (wc : va_W) (wc' : Sg → va_W) (v : Option Value) : Prop := ∀ sz, Met l y (wL y c n r) rm (va_Pc av (pwx D tys wc sz)) (qvx D tys (va_A wc sz) wc' v) rm.cells rm.slots (va_A wc sz)
def qx (D : va_G) (tys : List (ClassId × FieldType)) (A : Nat → Prop) (wc : va_W) (E : String) : String → State → State → Prop := fun E' st t => E' = E ∧ (va_P D vwCl wc t.heap ∧ va_K D vwCl tys t ∧ va_D A wc) ∧ va_F A st t
abbrev qno : Array Value → State → Outcome → State → Prop := fun _ _ _ _ => False
/-- it throws E, and all is as it was -/
def MT (l : Launch) (y : MethodName) (c : ByteArray) (n : Nat) (r : Option FieldType) (rm : Room) (D : va_G) (tys : List (ClassId × FieldType)) (av : List Value) (wc : va_W) (E : String) : Prop := ∀ sz, vx_Met l y (wL y c n r) rm (va_Pc av (pwx D tys wc sz)) qno (qx D tys (va_A wc sz) wc E) rm.cells rm.slots (va_A wc sz)
theorem pwx_blind {D : va_G} {tys : List (ClassId × FieldType)} {av : List Value} {wc : va_W} {sz : Nat} : FrameBlind (va_Pc av (pwx D tys wc sz)) := fun a U g mk q => by
  obtain ⟨q0, ⟨q1, qP, qK, qD⟩, qE⟩ := q
  exact ⟨q0, ⟨q1, qP, va_K.moved (u := U) (U := U.calling g mk a) (Vm.Alike.refl U.vm) qK, qD⟩, EX.same (s := U) (U := U.calling g mk a) rfl qE⟩
section KX
variable {p : Program} {l : Launch} {e : Env} {R : Room} {s : State} {m : MethodId} {args : Array Value} {below : List Frame} {meth : Method} {c : Code} {H : Heap} {locs : List Loc} {cells slots : Nat} {Q : State → Prop}
variable {D : va_G} {tys : List (ClassId × FieldType)} {A A0 : Nat → Prop} {pc : Nat} {ls : Array Slot} {rest st0 : List Value} {cc : ByteArray}
theorem MX.of {y : MethodName} {rm : Room} {av : List Value} {wc : va_W} {wc' : Sg → va_W} {v : Option Value} {maxL : Nat} {ret : Option FieldType}
    (hy : plainName y.cls = true) (hlen : (lg_sl av).length ≤ maxL)
    (body : ∀ (p : Program) (e : Env) (s : State) (m : MethodId) (args : Array Value) (below : List Frame) (meth : Method) (c : Code) (A : Nat → Prop) (ls : Array Slot) (Q : State → Prop),
      p.tables.exec = Jvm.exec → c.code = cc → c.maxLocals = maxL → meth.sig.returnType = ret → (∀ w ∈ LW, w.before args s = true) → s.vm.findClass y.cls = some m.cls → meth.locks = false →
      (∀ q : Nat, s.heap.size ≤ q → A q) → va_P D vwCl wc s.heap → va_D A wc → va_K D vwCl tys s → va_S A s.heap s.heap [] → lv_has ls maxL (lv_args 0 av) → Q = MQ below (qvx D tys A wc' v) args s rm.cells rm.slots A → EX A s s.heap →
      W p l e rm s m args below meth c s.heap [] 0 0 Q (F0 m 0 ls [])) : MX l y cc maxL ret rm D tys av wc wc' v := by
  intro sz
  refine Met.ofW (cc := cc) (maxL := maxL) (ret := ret) hy rfl ?_
  intro p e s m args below meth c s₁ B hml hv
  obtain ⟨rfl, ⟨hsz, hP, hK, hD0⟩, hE⟩ := hv
  subst hsz
  rw [lg_entry_eq]
  exact body p e s m av.toArray below meth c (va_A wc s.heap.size) _ _ B.exec B.bytes hml B.returns (fun w h => atoms_spec (ws := wL y cc maxL ret) B.pre w (List.mem_cons_of_mem _ h)) (findClass_of_methodNamed B.named) B.notSynchronized (fun q h => Or.inr h) hP hD0.self hK va_S.rf (lv_entry av hlen) rfl hE
theorem MT.of {y : MethodName} {rm : Room} {av : List Value} {wc : va_W} {E : String} {maxL : Nat} {ret : Option FieldType}
    (hy : plainName y.cls = true) (hlen : (lg_sl av).length ≤ maxL)
    (body : ∀ (p : Program) (e : Env) (s : State) (m : MethodId) (args : Array Value) (below : List Frame) (meth : Method) (c : Code) (A : Nat → Prop) (ls : Array Slot) (Q : State → Prop),
      p.tables.exec = Jvm.exec → c.code = cc → c.maxLocals = maxL → meth.sig.returnType = ret → (∀ w ∈ LW, w.before args s = true) → s.vm.findClass y.cls = some m.cls → meth.locks = false →
      (∀ q : Nat, s.heap.size ≤ q → A q) → va_P D vwCl wc s.heap → va_D A wc → va_K D vwCl tys s → va_S A s.heap s.heap [] → lv_has ls maxL (lv_args 0 av) → Q = vx_MQ below qno (qx D tys A wc E) args s rm.cells rm.slots A → EX A s s.heap → (∀ x ∈ c.exceptionTable.toList, False) →
      W p l e rm s m args below meth c s.heap [] 0 0 Q (F0 m 0 ls [])) : MT l y cc maxL ret rm D tys av wc E := by
  intro sz
  refine vx_ofW (cc := cc) (maxL := maxL) (ret := ret) hy rfl ?_
  intro p e s m args below meth c s₁ B hml ht hv
  obtain ⟨rfl, ⟨hsz, hP, hK, hD0⟩, hE⟩ := hv
  subst hsz
  rw [lg_entry_eq]
  exact body p e s m av.toArray below meth c (va_A wc s.heap.size) _ _ B.exec B.bytes hml B.returns (fun w h => atoms_spec (ws := wL y cc maxL ret) B.pre w (List.mem_cons_of_mem _ h)) (findClass_of_methodNamed B.named) B.notSynchronized (fun q h => Or.inr h) hP hD0.self hK va_S.rf (lv_entry av hlen) rfl hE ht
/-- what the callee needs, out of the caller's -/
theorem EX.go {wc w0 w2 : va_W} (hE : EX A0 s s.heap) (hS : va_S A0 s.heap H locs) (hD : va_D A0 (w0 ++ (wc ++ w2))) (hA : ∀ q, s.heap.size ≤ q → A0 q) {U : State} (hU : U.heap = H) (hW : s.WarmedH U.vm) : EX (va_A wc H.size) U U.heap := by
  rw [hU]
  exact ((hE.kept hS.2.1).narrow (kb_free hD hS hA)).warm hW
theorem run_gox {wc w0 w2 wA : va_W} {wc' wB : Sg → va_W} {v : Option Value} {mc ms : Nat} {a : Array Value} {H0 : Heap}
    (hr : va_Run p l e R s m args below meth c H locs cells slots mc ms (F0 m pc ls st0) rest (qvx D tys (va_A wc H.size) wc' v a) (va_A wc H.size))
    (hP : va_P D vwCl wA H) (hD : va_D A0 wA) (hS : va_S A0 H0 H locs) (hA : ∀ q, H0.size ≤ q → A0 q) (hsp : wA = w0 ++ (wc ++ w2)) (hsp' : ∀ ρ, wB ρ = w0 ++ (wc' ρ ++ w2))
    (kk : ∀ (ρ : Sg) (H1 : Heap) (locs1 : List Loc), va_P D vwCl (wB ρ) H1 → va_D A0 (wB ρ) → va_S A0 H0 H1 locs1 → W p l e R s m args below meth c H1 locs1 (cells + mc) (slots + ms) Q (F0 m (pc + 3) ls (v.toList ++ rest))) :
    W p l e R s m args below meth c H locs cells slots Q (F0 m pc ls st0) := by
  subst hsp
  have hf := kb_free hD hS hA
  intro T hT X
  obtain ⟨v', st₀, t, T', L, h0, X', hL, e1, e2, ⟨⟨ρ, hv, hP1, hK1, hD1⟩, hz, hk⟩, st⟩ := hr T hT X
  cases hv
  rw [h0] at hz hk
  rw [← e1] at hP1 hz hk
  obtain ⟨j1, j2⟩ := kb_join hP hD hk hP1 hD1 hf
  rw [← hsp' ρ] at j1 j2
  obtain ⟨t2, a1, b1⟩ := kk ρ T'.heap (locs ++ L) j1 j2
    ⟨Nat.le_trans hS.1 hz, fun q h1 h2 => by rw [hk q (Nat.lt_of_lt_of_le h1 hS.1) (fun z => h2 (hf q z))]; exact hS.2.1 q h1 h2, fun q hq => by
      rcases List.mem_append.mp hq with h | h
      · exact hS.2.2 q h
      · exact hf _ (hL q h)⟩ T' rfl X'
  exact ⟨t2, st t2 a1, b1⟩
theorem MX.callV {own C : String} {T : u_T} {N ci q0 nL n index maxL : Nat} {bytes : ByteArray} {ret : Option FieldType} {y : MethodName} {rm : Room} {As : List Value} {b : Nat} {fs : List Value} {wc w0 w2 wA : va_W} {wc' wB : Sg → va_W} {v : Option Value}
    (hM : MX l y bytes maxL ret rm D tys (.ref b :: As) wc wc' v) (S : CallFix p m c cc nL s args LW own) (hw1 : Cond.methodLink own index y ∈ LW) (hw2 : Cond.instanceMethod y ∈ LW ∧ Cond.selects C y y ∈ LW ∧ Cond.initialized C ∈ LW ∧ Cond.code y bytes maxL ret ∈ LW)
    (hd : y.cls = C ∧ y.cls ≠ "java/lang/invoke/MethodHandle" ∧ y.cls ≠ "java/lang/invoke/VarHandle" ∧ (parseMethodDescriptor y.desc).map (fun d => d.parameters.length) = some n) (hR : rm.frames + 1 ≤ R.frames ∧ 8 + (maxL + 11) + rm.locals ≤ R.locals)
    (hK : va_K D vwCl tys s) (hP : va_P D vwCl wA H) (hD : va_D A0 wA) (hS : va_S A0 s.heap H locs) (hA : ∀ q, s.heap.size ≤ q → A0 q) (hE : EX A0 s s.heap) (hsp : wA = w0 ++ (wc ++ w2)) (hsp' : ∀ ρ, wB ρ = w0 ++ (wc' ρ ++ w2))
    (hci : vwCl[ci]? = some (C, T, N)) (hrec : wA[q0]? = some (b, .inr (ci, fs))) (hn : As.length = n) (hls : ls.size = nL) (hst : st0 = As.reverse ++ .ref b :: rest) (hroom : (rest.map fun v => v.category).sum ≤ 8)
    (hdg : decode cc pc = .ok (.invokevirtual index, 3)) (hf : cells + rm.cells ≤ R.cells ∧ slots + rm.slots ≤ R.slots)
    (kk : ∀ (ρ : Sg) (H1 : Heap) (locs1 : List Loc), va_P D vwCl (wB ρ) H1 → va_D A0 (wB ρ) → va_S A0 s.heap H1 locs1 → W p l e R s m args below meth c H1 locs1 (cells + rm.cells) (slots + rm.slots) Q (F0 m (pc + 3) ls (v.toList ++ rest))) :
    W p l e R s m args below meth c H locs cells slots Q (F0 m pc ls st0) := by
  have hPc : va_P D vwCl wc H := kb_sub (by rw [← hsp]; exact hP)
  have hDc : va_D (fun _ => True) wc := kb_subD (by rw [← hsp]; exact hD)
  exact run_gox (va_runV S (hM H.size) (cwV n S.2.2.2.2 (gV hw1 hw2) rfl rfl rfl hd hR) ⟨pwx_blind, va_recv hK hP hci hrec, fun U hU hW => ⟨rfl, ⟨by rw [hU], by rw [hU]; exact hPc, va_K.moved hW.alike hK, hDc⟩, EX.go hE hS (by rw [← hsp]; exact hD) hA hU hW⟩⟩ rfl hn hls hst (lv_room hroom) hdg hf) hP hD hS hA hsp hsp' kk
/-- a call that throws for sure -/
theorem run_tx {wc w0 w2 wA : va_W} {E : String} {mc ms : Nat} {Qa : State → Outcome → State → Prop} (hno : ∀ st o t, ¬ Qa st o t)
    (hr : vx_Run p l e R s m args below meth c H locs cells slots mc ms (F0 m pc ls st0) rest Qa (qx D tys (va_A wc H.size) wc E) (va_A wc H.size))
    (hP : va_P D vwCl wA H) (hD : va_D A0 wA) (hS : va_S A0 s.heap H locs) (hA : ∀ q, s.heap.size ≤ q → A0 q) (hsp : wA = w0 ++ (wc ++ w2))
    (kx : ∀ (ce : Cell) (q9 : Addr) (H1 : Heap) (locs1 : List Loc), va_P D vwCl wA H1 → va_D A0 wA → va_S A0 s.heap H1 locs1 → H1[q9]? = some ce → ce.vm = .none → s.vm.findClass E = some ce.cls → vx_W p l e R s m args below meth c H1 locs1 (cells + mc) (slots + ms) Q (F0 m pc ls rest) q9) :
    W p l e R s m args below meth c H locs cells slots Q (F0 m pc ls st0) := by
  subst hsp
  have hf := kb_free hD hS hA
  intro T hT X
  rcases hr T hT X with ⟨v, st₀, t, T', L, h0, X', hL, e1, e2, hq, st⟩ | ⟨q, st₀, t, T', L, E', ce, h0, X', hL, e1, e2, ⟨hEE, ⟨hP1, hK1, hD1⟩, hz, hk⟩, hce, hcv, hcl, st⟩
  · exact absurd hq (hno _ _ _)
  · subst hEE
    rw [h0] at hz hk
    rw [← e1] at hP1 hz hk hce
    obtain ⟨j1, j2⟩ := kb_join hP hD hk hP1 hD1 hf
    obtain ⟨t2, a1, b1⟩ := kx ce q T'.heap (locs ++ L) j1 j2
      ⟨Nat.le_trans hS.1 hz, fun q h1 h2 => by rw [hk q (Nat.lt_of_lt_of_le h1 hS.1) (fun z => h2 (hf q z))]; exact hS.2.1 q h1 h2, fun q hq => by
        rcases List.mem_append.mp hq with h | h
        · exact hS.2.2 q h
        · exact hf _ (hL q h)⟩ hce hcv hcl T' rfl X'
    exact ⟨t2, st.trans a1, b1⟩
theorem MT.callV {own C E : String} {T : u_T} {N ci q0 nL n index maxL : Nat} {bytes : ByteArray} {ret : Option FieldType} {y : MethodName} {rm : Room} {As : List Value} {b : Nat} {fs : List Value} {wc w0 w2 wA : va_W}
    (hM : MT l y bytes maxL ret rm D tys (.ref b :: As) wc E) (S : CallFix p m c cc nL s args LW own) (hw1 : Cond.methodLink own index y ∈ LW) (hw2 : Cond.instanceMethod y ∈ LW ∧ Cond.selects C y y ∈ LW ∧ Cond.initialized C ∈ LW ∧ Cond.code y bytes maxL ret ∈ LW)
    (hd : y.cls = C ∧ y.cls ≠ "java/lang/invoke/MethodHandle" ∧ y.cls ≠ "java/lang/invoke/VarHandle" ∧ (parseMethodDescriptor y.desc).map (fun d => d.parameters.length) = some n) (hR : rm.frames + 1 ≤ R.frames ∧ 8 + (maxL + 11) + rm.locals ≤ R.locals)
    (hK : va_K D vwCl tys s) (hP : va_P D vwCl wA H) (hD : va_D A0 wA) (hS : va_S A0 s.heap H locs) (hA : ∀ q, s.heap.size ≤ q → A0 q) (hE : EX A0 s s.heap) (hsp : wA = w0 ++ (wc ++ w2))
    (hci : vwCl[ci]? = some (C, T, N)) (hrec : wA[q0]? = some (b, .inr (ci, fs))) (hn : As.length = n) (hls : ls.size = nL) (hst : st0 = As.reverse ++ .ref b :: rest) (hroom : (rest.map fun v => v.category).sum ≤ 8)
    (hdg : decode cc pc = .ok (.invokevirtual index, 3)) (hf : cells + rm.cells ≤ R.cells ∧ slots + rm.slots ≤ R.slots)
    (kx : ∀ (ce : Cell) (q9 : Addr) (H1 : Heap) (locs1 : List Loc), va_P D vwCl wA H1 → va_D A0 wA → va_S A0 s.heap H1 locs1 → H1[q9]? = some ce → ce.vm = .none → s.vm.findClass E = some ce.cls → vx_W p l e R s m args below meth c H1 locs1 (cells + rm.cells) (slots + rm.slots) Q (F0 m pc ls rest) q9) :
    W p l e R s m args below meth c H locs cells slots Q (F0 m pc ls st0) := by
  have hPc : va_P D vwCl wc H := kb_sub (by rw [← hsp]; exact hP)
  have hDc : va_D (fun _ => True) wc := kb_subD (by rw [← hsp]; exact hD)
  exact run_tx (fun _ _ _ h => h) (vx_runV S (hM H.size) (cwV n S.2.2.2.2 (gV hw1 hw2) rfl rfl rfl hd hR) ⟨pwx_blind, va_recv hK hP hci hrec, fun U hU hW => ⟨rfl, ⟨by rw [hU], by rw [hU]; exact hPc, va_K.moved hW.alike hK, hDc⟩, EX.go hE hS (by rw [← hsp]; exact hD) hA hU hW⟩⟩ rfl hn hls hst (lv_room hroom) hdg hf) hP hD hS hA hsp kx
theorem MX.callS {own : String} {nL n index maxL : Nat} {bytes : ByteArray} {ret : Option FieldType} {y : MethodName} {rm : Room} {As : List Value} {wc w0 w2 wA : va_W} {wc' wB : Sg → va_W} {v : Option Value}
    (hM : MX l y bytes maxL ret rm D tys As wc wc' v) (S : CallFix p m c cc nL s args LW own) (hw1 : Cond.methodLink own index y ∈ LW) (hw2 : Cond.static y ∈ LW ∧ Cond.initialized y.cls ∈ LW ∧ Cond.code y bytes maxL ret ∈ LW)
    (hd : y.cls ≠ "java/lang/invoke/MethodHandle" ∧ y.cls ≠ "java/lang/invoke/VarHandle" ∧ (parseMethodDescriptor y.desc).map (fun d => d.parameters.length) = some n) (hR : rm.frames + 1 ≤ R.frames ∧ 8 + (maxL + 11) + rm.locals ≤ R.locals)
    (hK : va_K D vwCl tys s) (hP : va_P D vwCl wA H) (hD : va_D A0 wA) (hS : va_S A0 s.heap H locs) (hA : ∀ q, s.heap.size ≤ q → A0 q) (hE : EX A0 s s.heap) (hsp : wA = w0 ++ (wc ++ w2)) (hsp' : ∀ ρ, wB ρ = w0 ++ (wc' ρ ++ w2))
    (hn : As.length = n) (hls : ls.size = nL) (hst : st0 = As.reverse ++ rest) (hroom : (rest.map fun v => v.category).sum ≤ 8)
    (hdg : decode cc pc = .ok (.invokestatic index, 3)) (hf : cells + rm.cells ≤ R.cells ∧ slots + rm.slots ≤ R.slots)
    (kk : ∀ (ρ : Sg) (H1 : Heap) (locs1 : List Loc), va_P D vwCl (wB ρ) H1 → va_D A0 (wB ρ) → va_S A0 s.heap H1 locs1 → W p l e R s m args below meth c H1 locs1 (cells + rm.cells) (slots + rm.slots) Q (F0 m (pc + 3) ls (v.toList ++ rest))) :
    W p l e R s m args below meth c H locs cells slots Q (F0 m pc ls st0) := by
  have hPc : va_P D vwCl wc H := kb_sub (by rw [← hsp]; exact hP)
  have hDc : va_D (fun _ => True) wc := kb_subD (by rw [← hsp]; exact hD)
  exact run_gox (va_runS S (hM H.size) (va_cwS n S.2.2.2.2 (gS hw1 hw2) rfl rfl rfl hd hR) ⟨pwx_blind, fun U hU hW => ⟨rfl, ⟨by rw [hU], by rw [hU]; exact hPc, va_K.moved hW.alike hK, hDc⟩, EX.go hE hS (by rw [← hsp]; exact hD) hA hU hW⟩⟩ rfl hn hls hst (lv_room hroom) hdg hf) hP hD hS hA hsp hsp' kk
theorem MT.callS {own E : String} {nL n index maxL : Nat} {bytes : ByteArray} {ret : Option FieldType} {y : MethodName} {rm : Room} {As : List Value} {wc w0 w2 wA : va_W}
    (hM : MT l y bytes maxL ret rm D tys As wc E) (S : CallFix p m c cc nL s args LW own) (hw1 : Cond.methodLink own index y ∈ LW) (hw2 : Cond.static y ∈ LW ∧ Cond.initialized y.cls ∈ LW ∧ Cond.code y bytes maxL ret ∈ LW)
    (hd : y.cls ≠ "java/lang/invoke/MethodHandle" ∧ y.cls ≠ "java/lang/invoke/VarHandle" ∧ (parseMethodDescriptor y.desc).map (fun d => d.parameters.length) = some n) (hR : rm.frames + 1 ≤ R.frames ∧ 8 + (maxL + 11) + rm.locals ≤ R.locals)
    (hK : va_K D vwCl tys s) (hP : va_P D vwCl wA H) (hD : va_D A0 wA) (hS : va_S A0 s.heap H locs) (hA : ∀ q, s.heap.size ≤ q → A0 q) (hE : EX A0 s s.heap) (hsp : wA = w0 ++ (wc ++ w2))
    (hn : As.length = n) (hls : ls.size = nL) (hst : st0 = As.reverse ++ rest) (hroom : (rest.map fun v => v.category).sum ≤ 8)
    (hdg : decode cc pc = .ok (.invokestatic index, 3)) (hf : cells + rm.cells ≤ R.cells ∧ slots + rm.slots ≤ R.slots)
    (kx : ∀ (ce : Cell) (q9 : Addr) (H1 : Heap) (locs1 : List Loc), va_P D vwCl wA H1 → va_D A0 wA → va_S A0 s.heap H1 locs1 → H1[q9]? = some ce → ce.vm = .none → s.vm.findClass E = some ce.cls → vx_W p l e R s m args below meth c H1 locs1 (cells + rm.cells) (slots + rm.slots) Q (F0 m pc ls rest) q9) :
    W p l e R s m args below meth c H locs cells slots Q (F0 m pc ls st0) := by
  have hPc : va_P D vwCl wc H := kb_sub (by rw [← hsp]; exact hP)
  have hDc : va_D (fun _ => True) wc := kb_subD (by rw [← hsp]; exact hD)
  have hcw := va_cwS (R := R) (args := args) n S.2.2.2.2 (gS hw1 hw2) rfl rfl rfl hd hR
  exact run_tx (fun _ _ _ h => h) (vx_runS S (hM H.size) hcw ⟨pwx_blind, fun U hU hW => ⟨rfl, ⟨by rw [hU], by rw [hU]; exact hPc, va_K.moved hW.alike hK, hDc⟩, EX.go hE hS (by rw [← hsp]; exact hD) hA hU hW⟩⟩ rfl hn hls hst (lv_room hroom) hdg hf) hP hD hS hA hsp kx
/-- it goes on to the caller -/
theorem MT.out {wc : va_W} {E : String} {ce : Cell} {q9 : Addr} {mc ms : Nat} (hlocks : meth.locks = false) (htab : ∀ x ∈ c.exceptionTable.toList, False) (hK : va_K D vwCl tys s) (hP : va_P D vwCl wc H) (hD : va_D A wc) (hS : va_S A s.heap H locs) (hce : H[q9]? = some ce) (hcv : ce.vm = .none) (hcl : s.vm.findClass E = some ce.cls) (hc : cells ≤ mc) (hs : slots ≤ ms) :
    vx_W p l e R s m args below meth c H locs cells slots (vx_MQ below qno (qx D tys A wc E) args s mc ms A) (F0 m pc ls rest) q9 :=
  vx_out (fun x hx => (htab x hx).elim) hlocks hce hcv hcl (fun t ht ha => ⟨rfl, ⟨by rw [ht]; exact hP, va_K.moved ha hK, hD⟩, hS.F ht⟩) hS.2.2 hc hs
theorem x_getN {own C host : String} {T : u_T} {N ci index : Nat} {cl : List vw_C} {ws : va_W} {a : Nat} (hx : p.tables.exec = Jvm.exec) (hb : c.code = cc) (hts : ∀ w ∈ LW, w.before args s = true) (hin : ∀ w ∈ u_ws C T N, w ∈ LW) (hown : s.vm.findClass own = some m.cls) (hK : va_K D cl tys s) (hP : va_P D cl ws H) (q0 : Nat) {fs : List Value} (he : ws[q0]? = some (a, .inr (ci, fs))) (hc : cl[ci]? = some (C, T, N)) (k : Nat) (hk : k < N) (hlink : va_Nw (Cond.fieldLinkNest own index (T k).1 (T k).2.1 (T k).2.2.1 host) s) {v : Value} (hv : fs[k]? = some v) (hdg : decode cc pc = .ok (.getfield index, 3))
    (kk : W p l e R s m args below meth c H locs cells slots Q (F0 m (pc + 3) ls (v :: rest))) : W p l e R s m args below meth c H locs cells slots Q (F0 m pc ls (.ref a :: rest)) :=
  va_getN hx hb hts hin hown hK hP q0 he hc k hk (va_Nw.use rfl hlink) (fun _ h => h) hv hdg kk
theorem x_putN {own C host : String} {T : u_T} {N ci index : Nat} {cl : List vw_C} {ws ws2 : va_W} {a : Nat} {H0 : Heap} {ty0 : Nat → FieldType} (hx : p.tables.exec = Jvm.exec) (hb : c.code = cc) (hts : ∀ w ∈ LW, w.before args s = true) (hin : ∀ w ∈ u_ws C T N, w ∈ LW) (hty : ∀ k, k < N → parseFieldDescriptor (T k).2.2.1 = some (ty0 k)) (hnm : ∀ a, a < N → ∀ b, b < N → a ≠ b → (T a).2.1 ≠ (T b).2.1) (hown : s.vm.findClass own = some m.cls) (hK : va_K D cl tys s) (hP : va_P D cl ws H) (hD : va_D A ws) (hS : va_S A H0 H locs) (q0 : Nat) {fs : List Value} (he : ws[q0]? = some (a, .inr (ci, fs))) (hc : cl[ci]? = some (C, T, N)) (k : Nat) (hk : k < N) (hlink : va_Nw (Cond.fieldLinkNest own index (T k).1 (T k).2.1 (T k).2.2.1 host) s) (hfin : (T k).2.2.2 = false) {x : Int32} (hd : parseFieldDescriptor (T k).2.2.1 = some .int) (hl : k < fs.length) (hw : ws.set q0 (a, .inr (ci, fs.set k (.int x))) = ws2) (hdg : decode cc pc = .ok (.putfield index, 3))
    (kk : ∀ (H1 : Heap) (locs1 : List Loc), va_P D cl ws2 H1 → va_D A ws2 → va_S A H0 H1 locs1 → W p l e R s m args below meth c H1 locs1 cells slots Q (F0 m (pc + 3) ls rest)) : W p l e R s m args below meth c H locs cells slots Q (F0 m pc ls (.int x :: .ref a :: rest)) := by
  subst hw
  exact va_putN hx hb hts hin ty0 hty hnm hown hK hP hD hS q0 he hc k hk (va_Nw.use rfl hlink) (fun _ h => h) hfin (ty := .int) hd rfl rfl hl hdg kk
theorem xri {wc : va_W} {wc' : Sg → va_W} {v r : Int32} (ρ : Sg) (hx : p.tables.exec = Jvm.exec) (hb : c.code = cc) (hr : meth.sig.returnType = some .int) (hlocks : meth.locks = false) (hK : va_K D vwCl tys s) (hP : va_P D vwCl wc H) (hD : va_D A wc) (hS : va_S A s.heap H locs) (hdg : decode cc pc = .ok (.ireturn, 1)) (hw : wc = wc' ρ) (hv : v = r) :
    W p l e R s m args below meth c H locs cells slots (MQ below (qvx D tys A wc' (some (.int r))) args s cells slots A) (F0 m pc ls [.int v]) := by
  subst hw; subst hv
  exact W.iret hx hb hr (fun t ht hW => ⟨⟨ρ, rfl, by rw [ht]; exact hP, va_K.moved hW.alike hK, hD⟩, hS.F ht⟩) hS.2.2 hdg hlocks
theorem xrl {wc : va_W} {wc' : Sg → va_W} {v r : Int64} (ρ : Sg) (hx : p.tables.exec = Jvm.exec) (hb : c.code = cc) (hr : meth.sig.returnType = some .long) (hlocks : meth.locks = false) (hK : va_K D vwCl tys s) (hP : va_P D vwCl wc H) (hD : va_D A wc) (hS : va_S A s.heap H locs) (hdg : decode cc pc = .ok (.lreturn, 1)) (hw : wc = wc' ρ) (hv : v = r) :
    W p l e R s m args below meth c H locs cells slots (MQ below (qvx D tys A wc' (some (.long r))) args s cells slots A) (F0 m pc ls [.long v]) := by
  subst hw; subst hv
  exact W.lret hx hb hr (fun t ht hW => ⟨⟨ρ, rfl, by rw [ht]; exact hP, va_K.moved hW.alike hK, hD⟩, hS.F ht⟩) hS.2.2 hdg hlocks
theorem xrz {wc : va_W} {wc' : Sg → va_W} {v r : Int32} (ρ : Sg) (hx : p.tables.exec = Jvm.exec) (hb : c.code = cc) (hr : meth.sig.returnType = some .boolean) (hlocks : meth.locks = false) (hK : va_K D vwCl tys s) (hP : va_P D vwCl wc H) (hD : va_D A wc) (hS : va_S A s.heap H locs) (hdg : decode cc pc = .ok (.ireturn, 1)) (h01 : v = 0 ∨ v = 1) (hw : wc = wc' ρ) (hv : v = r) :
    W p l e R s m args below meth c H locs cells slots (MQ below (qvx D tys A wc' (some (.int r))) args s cells slots A) (F0 m pc ls [.int v]) := by
  subst hw; subst hv
  exact W.zret hx hb hr (by rcases h01 with rfl | rfl <;> rfl) (fun t ht hW => ⟨⟨ρ, rfl, by rw [ht]; exact hP, va_K.moved hW.alike hK, hD⟩, hS.F ht⟩) hS.2.2 hdg hlocks
theorem xrv {wc : va_W} {wc' : Sg → va_W} (ρ : Sg) (hx : p.tables.exec = Jvm.exec) (hb : c.code = cc) (hr : meth.sig.returnType = none) (hlocks : meth.locks = false) (hK : va_K D vwCl tys s) (hP : va_P D vwCl wc H) (hD : va_D A wc) (hS : va_S A s.heap H locs) (hdg : decode cc pc = .ok (.return_, 1)) (hw : wc = wc' ρ) :
    W p l e R s m args below meth c H locs cells slots (MQ below (qvx D tys A wc' none) args s cells slots A) (F0 m pc ls []) := by
  subst hw
  exact W.vret hx hb hr (fun t ht hW => ⟨⟨ρ, rfl, by rw [ht]; exact hP, va_K.moved hW.alike hK, hD⟩, hS.F ht⟩) hS.2.2 hdg hlocks
/-- 'throw new E("text")', with all as it was -/
theorem MT.thr {text E : String} {ik is ic mc ms i9 : Nat} {wc : va_W} {own : String} (hown1 : own = RX1) (hx : p.tables.exec = Jvm.exec) (hb : c.code = cc) (hts : ∀ w ∈ LW, w.before args s = true) (hl : l.stackTraces = false) (hown : s.vm.findClass own = some m.cls) (hcls : Bundle.fit E = true)
    (hk : Cond.classLink own ik E ∈ LW) (hini : Cond.initialized E ∈ LW) (hstr : EXS[i9]? = some (is, text)) (hgd : ∀ w ∈ (vx_atS own ic E ["java/lang/RuntimeException", "java/lang/Exception"]).filter goodWord, w ∈ LW)
    (hbd : ∀ w ∈ (vx_atS own ic E ["java/lang/RuntimeException", "java/lang/Exception"]).filter (fun w => !goodWord w), w ∈ EXW)
    (hot : ∀ w ∈ Cond.classLink own ik E :: Cond.initialized E :: vx_atS own ic E ["java/lang/RuntimeException", "java/lang/Exception"], vx_ot w = true)
    (hE : EX A s s.heap) (hlocks : meth.locks = false) (htab : ∀ x ∈ c.exceptionTable.toList, False) (hK : va_K D vwCl tys s) (hP : va_P D vwCl wc H) (hD : va_D A wc) (hS : va_S A s.heap H locs) (hsize : ls.size = c.maxLocals)
    (d0 : decode cc pc = .ok (.new ik, 3)) (d3 : decode cc (pc + 3) = .ok (.dup, 1)) (d4 : decode cc (pc + 4) = .ok (.ldc is, 2)) (d6 : decode cc (pc + 6) = .ok (.invokespecial ic, 3)) (d9 : decode cc (pc + 9) = .ok (.athrow, 1))
    (hRf : 5 < R.frames) (hRl : (rest.map fun v => v.category).sum + 82 ≤ R.locals) (hRc : cells + 1 ≤ R.cells) (hRs : slots + 6 ≤ R.slots) (hc : cells + 1 ≤ mc) (hs : slots + 6 ≤ ms) :
    W p l e R s m args below meth c H locs cells slots (vx_MQ below qno (qx D tys A wc E) args s mc ms A) (F0 m pc ls rest) := by
  subst hown1
  obtain ⟨sa, hsa⟩ := hE.s i9 hstr
  refine vx_throwS (names := ["java/lang/RuntimeException", "java/lang/Exception"]) hx hb hl hown hcls (by decide +kernel) (hts _ hk) (hts _ hini) hsa ?_ hot hE.2.2.2.1 hE.2.2.2.2 hS hsize d0 d3 d4 d6 d9 (fun x hx => (htab x hx).elim) hRf hRl hRc hRs hlocks ?_ hS.2.2 hc hs
  · exact vx_hat (fun w hw => hts _ (hgd w hw)) hbd (fun w hw => va_Nw.use (List.all_eq_true.mp EXW_ok w hw) (hE.1 w hw))
  · intro t ha hz hq
    refine ⟨rfl, ⟨hP.kept (fun k q hk => hq q.1 ((hP k q hk).lt)), va_K.moved ha hK, hD⟩, Nat.le_trans hS.1 hz, fun q h1 h2 => (hq q (Nat.lt_of_lt_of_le h1 hS.1)).trans (hS.2.1 q h1 h2)⟩
end KX

-- the three exceptions' words
def nmX : List String := ["java/lang/RuntimeException", "java/lang/Exception"]
abbrev eIAE : String := "java/lang/IllegalArgumentException"
theorem tb_IAE : ∀ w ∈ (vx_atS RX1 223 "java/lang/IllegalArgumentException" ["java/lang/RuntimeException", "java/lang/Exception"]).filter goodWord, w ∈ lw_tbl := by decide +kernel
theorem gd_IAE : ∀ w ∈ (vx_atS RX1 223 "java/lang/IllegalArgumentException" ["java/lang/RuntimeException", "java/lang/Exception"]).filter goodWord, w ∈ LW := fun w h => LW_of (tb_IAE w h) (List.mem_filter.mp h).2
theorem bd_IAE : ∀ w ∈ (vx_atS RX1 223 "java/lang/IllegalArgumentException" ["java/lang/RuntimeException", "java/lang/Exception"]).filter (fun w => !goodWord w), w ∈ EXW := by decide +kernel
theorem ot_IAE : ∀ w ∈ Cond.classLink RX1 219 "java/lang/IllegalArgumentException" :: Cond.initialized "java/lang/IllegalArgumentException" :: (vx_atS RX1 223 "java/lang/IllegalArgumentException" ["java/lang/RuntimeException", "java/lang/Exception"]), vx_ot w = true := by decide +kernel
abbrev eISE : String := "java/lang/IllegalStateException"
theorem tb_ISE : ∀ w ∈ (vx_atS RX1 31 "java/lang/IllegalStateException" ["java/lang/RuntimeException", "java/lang/Exception"]).filter goodWord, w ∈ lw_tbl := by decide +kernel
theorem gd_ISE : ∀ w ∈ (vx_atS RX1 31 "java/lang/IllegalStateException" ["java/lang/RuntimeException", "java/lang/Exception"]).filter goodWord, w ∈ LW := fun w h => LW_of (tb_ISE w h) (List.mem_filter.mp h).2
theorem bd_ISE : ∀ w ∈ (vx_atS RX1 31 "java/lang/IllegalStateException" ["java/lang/RuntimeException", "java/lang/Exception"]).filter (fun w => !goodWord w), w ∈ EXW := by decide +kernel
theorem ot_ISE : ∀ w ∈ Cond.classLink RX1 27 "java/lang/IllegalStateException" :: Cond.initialized "java/lang/IllegalStateException" :: (vx_atS RX1 31 "java/lang/IllegalStateException" ["java/lang/RuntimeException", "java/lang/Exception"]), vx_ot w = true := by decide +kernel
abbrev eIOB : String := "java/lang/IndexOutOfBoundsException"
theorem tb_IOB : ∀ w ∈ (vx_atS RX1 236 "java/lang/IndexOutOfBoundsException" ["java/lang/RuntimeException", "java/lang/Exception"]).filter goodWord, w ∈ lw_tbl := by decide +kernel
theorem gd_IOB : ∀ w ∈ (vx_atS RX1 236 "java/lang/IndexOutOfBoundsException" ["java/lang/RuntimeException", "java/lang/Exception"]).filter goodWord, w ∈ LW := fun w h => LW_of (tb_IOB w h) (List.mem_filter.mp h).2
theorem bd_IOB : ∀ w ∈ (vx_atS RX1 236 "java/lang/IndexOutOfBoundsException" ["java/lang/RuntimeException", "java/lang/Exception"]).filter (fun w => !goodWord w), w ∈ EXW := by decide +kernel
theorem ot_IOB : ∀ w ∈ Cond.classLink RX1 232 "java/lang/IndexOutOfBoundsException" :: Cond.initialized "java/lang/IndexOutOfBoundsException" :: (vx_atS RX1 236 "java/lang/IndexOutOfBoundsException" ["java/lang/RuntimeException", "java/lang/Exception"]), vx_ot w = true := by decide +kernel
