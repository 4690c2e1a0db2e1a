-- OWN KIT 4: constructors: what a world looks like behind one is known up to addresses
def qvn {ι : Type} (D : va_G) (tys : List (ClassId × FieldType)) (A : Nat → Prop) (wc' : ι → va_W) (v : Option Value) : Array Value → State → Outcome → State → Prop := fun _ st o t => (∃ x : ι, o = .returned v ∧ va_P D vwCl (wc' x) t.heap ∧ va_K D vwCl tys t ∧ va_D A (wc' x)) ∧ va_F A st t
def MN {ι : Type} (l : Launch) (y : MethodName) (c : ByteArray) (n : Nat) (r : Option FieldType) (rm : Room) (D : va_G) (tys : List (ClassId × FieldType)) (av : List Value) (wc : va_W) (wc' : ι → va_W) (v : Option Value) : Prop := ∀ sz, Met l y (wL y c n r) rm (va_Pc av (pw D tys wc sz)) (qvn D tys (va_A wc sz) wc' v) rm.cells rm.slots (va_A wc sz)
def MNX {ι : Type} (l : Launch) (y : MethodName) (c : ByteArray) (n : Nat) (r : Option FieldType) (rm : Room) (D : va_G) (tys : List (ClassId × FieldType)) (av : List Value) (wc : va_W) (wc' : ι → va_W) (v : Option Value) : Prop := ∀ sz, Met l y (wL y c n r) rm (va_Pc av (pwx D tys wc sz)) (qvn D tys (va_A wc sz) wc' v) rm.cells rm.slots (va_A wc sz)
theorem gI {y : MethodName} {bt : ByteArray} {r : Option FieldType} {n : Nat} (h : Cond.code y bt n r ∈ LW) : GoodIn LW (wL y bt n r) := by
  intro w hw
  refine LW_good w ?_
  simp only [wL, List.mem_cons] at hw
  rcases hw with rfl | h2 <;> assumption
section KM
variable {p : Program} {l : Launch} {e : Env} {R : Room} {s : State} {m : MethodId} {args : Array Value} {below : List Frame} {meth : Method} {c : Code} {H : Heap} {locs : List Loc} {cells slots : Nat} {Q : State → Prop}
variable {D : va_G} {tys : List (ClassId × FieldType)} {A A0 : Nat → Prop} {pc : Nat} {ls : Array Slot} {rest st0 : List Value} {cc : ByteArray} {ι : Type}
theorem MN.of {y : MethodName} {rm : Room} {av : List Value} {wc : va_W} {wc' : ι → va_W} {v : Option Value} {maxL : Nat} {ret : Option FieldType}
    (hy : plainName y.cls = true) (hlen : (lg_sl av).length ≤ maxL)
    (body : ∀ (p : Program) (e : Env) (s : State) (m : MethodId) (args : Array Value) (below : List Frame) (meth : Method) (c : Code) (A : Nat → Prop) (ls : Array Slot) (Q : State → Prop),
      p.tables.exec = Jvm.exec → c.code = cc → c.maxLocals = maxL → meth.sig.returnType = ret → (∀ w ∈ LW, w.before args s = true) → s.vm.findClass y.cls = some m.cls → meth.locks = false → meth.name = y.name →
      (∀ q : Nat, s.heap.size ≤ q → A q) → va_P D vwCl wc s.heap → va_D A wc → va_K D vwCl tys s → va_S A s.heap s.heap [] → lv_has ls maxL (lv_args 0 av) → Q = MQ below (qvn D tys A wc' v) args s rm.cells rm.slots A →
      W p l e rm s m args below meth c s.heap [] 0 0 Q (F0 m 0 ls [])) : MN l y cc maxL ret rm D tys av wc wc' v := by
  intro sz
  refine Met.ofW (cc := cc) (maxL := maxL) (ret := ret) hy rfl ?_
  intro p e s m args below meth c s₁ B hml hv
  obtain ⟨rfl, hsz, hP, hK, hD0⟩ := hv
  subst hsz
  rw [lg_entry_eq]
  exact body p e s m av.toArray below meth c (va_A wc s.heap.size) _ _ B.exec B.bytes hml B.returns (fun w h => atoms_spec (ws := wL y cc maxL ret) B.pre w (List.mem_cons_of_mem _ h)) (findClass_of_methodNamed B.named) B.notSynchronized (name_of_methodNamed B.named B.method).1 (fun q h => Or.inr h) hP hD0.self hK va_S.rf (lv_entry av hlen) rfl
theorem MNX.of {y : MethodName} {rm : Room} {av : List Value} {wc : va_W} {wc' : ι → va_W} {v : Option Value} {maxL : Nat} {ret : Option FieldType}
    (hy : plainName y.cls = true) (hlen : (lg_sl av).length ≤ maxL)
    (body : ∀ (p : Program) (e : Env) (s : State) (m : MethodId) (args : Array Value) (below : List Frame) (meth : Method) (c : Code) (A : Nat → Prop) (ls : Array Slot) (Q : State → Prop),
      p.tables.exec = Jvm.exec → c.code = cc → c.maxLocals = maxL → meth.sig.returnType = ret → (∀ w ∈ LW, w.before args s = true) → s.vm.findClass y.cls = some m.cls → meth.locks = false → meth.name = y.name →
      (∀ q : Nat, s.heap.size ≤ q → A q) → va_P D vwCl wc s.heap → va_D A wc → va_K D vwCl tys s → va_S A s.heap s.heap [] → lv_has ls maxL (lv_args 0 av) → Q = MQ below (qvn D tys A wc' v) args s rm.cells rm.slots A → EX A s s.heap →
      W p l e rm s m args below meth c s.heap [] 0 0 Q (F0 m 0 ls [])) : MNX l y cc maxL ret rm D tys av wc wc' v := by
  intro sz
  refine Met.ofW (cc := cc) (maxL := maxL) (ret := ret) hy rfl ?_
  intro p e s m args below meth c s₁ B hml hv
  obtain ⟨rfl, ⟨hsz, hP, hK, hD0⟩, hE⟩ := hv
  subst hsz
  rw [lg_entry_eq]
  exact body p e s m av.toArray below meth c (va_A wc s.heap.size) _ _ B.exec B.bytes hml B.returns (fun w h => atoms_spec (ws := wL y cc maxL ret) B.pre w (List.mem_cons_of_mem _ h)) (findClass_of_methodNamed B.named) B.notSynchronized (name_of_methodNamed B.named B.method).1 (fun q h => Or.inr h) hP hD0.self hK va_S.rf (lv_entry av hlen) rfl hE
theorem xnv {wc : va_W} {wc' : ι → va_W} (x : ι) (hx : p.tables.exec = Jvm.exec) (hb : c.code = cc) (hr : meth.sig.returnType = none) (hlocks : meth.locks = false) (hK : va_K D vwCl tys s) (hP : va_P D vwCl wc H) (hD : va_D A wc) (hS : va_S A s.heap H locs) (hdg : decode cc pc = .ok (.return_, 1)) (hw : wc = wc' x) :
    W p l e R s m args below meth c H locs cells slots (MQ below (qvn D tys A wc' none) args s cells slots A) (F0 m pc ls []) := by
  subst hw
  exact W.vret hx hb hr (fun t ht hW => ⟨⟨x, rfl, by rw [ht]; exact hP, va_K.moved hW.alike hK, hD⟩, hS.F ht⟩) hS.2.2 hdg hlocks
theorem run_gon {wc w0 w2 wA : va_W} {wc' : ι → va_W} {v : Option Value} {mc ms : Nat} {a : Array Value} {H0 : Heap}
    (hr : va_Run p l e R s m args below meth c H locs cells slots mc ms (F0 m pc ls st0) rest (qvn D tys (va_A wc H.size) wc' v a) (va_A wc H.size))
    (hP : va_P D vwCl wA H) (hD : va_D A0 wA) (hS : va_S A0 H0 H locs) (hA : ∀ q, H0.size ≤ q → A0 q) (hsp : wA = w0 ++ (wc ++ w2))
    (kk : ∀ (x : ι) (H1 : Heap) (locs1 : List Loc), va_P D vwCl (w0 ++ (wc' x ++ w2)) H1 → va_D A0 (w0 ++ (wc' x ++ w2)) → va_S A0 H0 H1 locs1 → W p l e R s m args below meth c H1 locs1 (cells + mc) (slots + ms) Q (F0 m (pc + 3) ls (v.toList ++ rest))) :
    W p l e R s m args below meth c H locs cells slots Q (F0 m pc ls st0) := by
  subst hsp
  have hf := kb_free hD hS hA
  intro T hT X
  obtain ⟨v', st₀, t, T', L, h0, X', hL, e1, e2, ⟨⟨x, hv, hP1, hK1, hD1⟩, hz, hk⟩, st⟩ := hr T hT X
  cases hv
  rw [h0] at hz hk
  rw [← e1] at hP1 hz hk
  obtain ⟨j1, j2⟩ := kb_join hP hD hk hP1 hD1 hf
  obtain ⟨t2, a1, b1⟩ := kk x T'.heap (locs ++ L) j1 j2
    ⟨Nat.le_trans hS.1 hz, fun q h1 h2 => by rw [hk q (Nat.lt_of_lt_of_le h1 hS.1) (fun z => h2 (hf q z))]; exact hS.2.1 q h1 h2, fun q hq => by
      rcases List.mem_append.mp hq with h | h
      · exact hS.2.2 q h
      · exact hf _ (hL q h)⟩ T' rfl X'
  exact ⟨t2, st t2 a1, b1⟩
theorem MN.callI {own : String} {nL n index maxL : Nat} {bytes : ByteArray} {y : MethodName} {rm : Room} {As : List Value} {b : Nat} {wc w0 w2 wA : va_W} {wc' : ι → va_W} {v : Option Value} {H0 : Heap}
    (hM : MN l y bytes maxL none rm D tys (.ref b :: As) wc wc' v) (S : CallFix p m c cc nL s args LW own) (hw1 : Cond.methodLink own index y ∈ LW) (hw2 : Cond.instanceMethod y ∈ LW ∧ Cond.initialized y.cls ∈ LW ∧ Cond.code y bytes maxL none ∈ LW) (hyn : y.name = "<init>")
    (hd : y.cls ≠ "java/lang/invoke/MethodHandle" ∧ y.cls ≠ "java/lang/invoke/VarHandle" ∧ (parseMethodDescriptor y.desc).map (fun d => d.parameters.length) = some n) (hR : rm.frames + 1 ≤ R.frames ∧ 8 + (maxL + 11) + rm.locals ≤ R.locals)
    (hK : va_K D vwCl tys s) (hP : va_P D vwCl wA H) (hD : va_D A0 wA) (hS : va_S A0 H0 H locs) (hA : ∀ q, H0.size ≤ q → A0 q) (hsp : wA = w0 ++ (wc ++ w2))
    (hn : As.length = n) (hls : ls.size = nL) (hst : st0 = As.reverse ++ .ref b :: rest) (hroom : (rest.map fun v => v.category).sum ≤ 8)
    (hdg : decode cc pc = .ok (.invokespecial index, 3)) (hf : cells + rm.cells ≤ R.cells ∧ slots + rm.slots ≤ R.slots)
    (kk : ∀ (x : ι) (H1 : Heap) (locs1 : List Loc), va_P D vwCl (w0 ++ (wc' x ++ w2)) H1 → va_D A0 (w0 ++ (wc' x ++ w2)) → va_S A0 H0 H1 locs1 → W p l e R s m args below meth c H1 locs1 (cells + rm.cells) (slots + rm.slots) Q (F0 m (pc + 3) ls (v.toList ++ rest))) :
    W p l e R s m args below meth c H locs cells slots Q (F0 m pc ls st0) := by
  have hPc : va_P D vwCl wc H := kb_sub (by rw [← hsp]; exact hP)
  have hDc : va_D (fun _ => True) wc := kb_subD (by rw [← hsp]; exact hD)
  exact run_gon (va_runI S (hM H.size) ⟨callB_of n S.2.2.2.2 (gI hw2.2.2) rfl rfl rfl (S.2.2.2.2 _ hw2.2.1) (S.2.2.2.2 _ hw1) hd hR, hyn, S.2.2.2.2 _ hw2.1⟩ ⟨pw_blind, fun U hU hW => ⟨rfl, by rw [hU], by rw [hU]; exact hPc, va_K.moved hW.alike hK, hDc⟩⟩ rfl hn hls hst (lv_room hroom) hdg hf) hP hD hS hA hsp kk
theorem MN.callIN {own host : String} {nL n index maxL : Nat} {bytes : ByteArray} {y : MethodName} {rm : Room} {As : List Value} {b : Nat} {wc w0 w2 wA : va_W} {wc' : ι → va_W} {v : Option Value} {H0 : Heap}
    (hM : MN l y bytes maxL none rm D tys (.ref b :: As) wc wc' v) (S : CallFix p m c cc nL s args LW own) (hw1 : va_Nw (Cond.methodLinkNest own index y host) s) (hw2 : Cond.instanceMethod y ∈ LW ∧ Cond.initialized y.cls ∈ LW ∧ Cond.code y bytes maxL none ∈ LW) (hyn : y.name = "<init>")
    (hd : y.cls ≠ "java/lang/invoke/MethodHandle" ∧ y.cls ≠ "java/lang/invoke/VarHandle" ∧ (parseMethodDescriptor y.desc).map (fun d => d.parameters.length) = some n) (hR : rm.frames + 1 ≤ R.frames ∧ 8 + (maxL + 11) + rm.locals ≤ R.locals)
    (hK : va_K D vwCl tys s) (hP : va_P D vwCl wA H) (hD : va_D A0 wA) (hS : va_S A0 H0 H locs) (hA : ∀ q, H0.size ≤ q → A0 q) (hsp : wA = w0 ++ (wc ++ w2))
    (hn : As.length = n) (hls : ls.size = nL) (hst : st0 = As.reverse ++ .ref b :: rest) (hroom : (rest.map fun v => v.category).sum ≤ 8)
    (hdg : decode cc pc = .ok (.invokespecial index, 3)) (hf : cells + rm.cells ≤ R.cells ∧ slots + rm.slots ≤ R.slots)
    (kk : ∀ (x : ι) (H1 : Heap) (locs1 : List Loc), va_P D vwCl (w0 ++ (wc' x ++ w2)) H1 → va_D A0 (w0 ++ (wc' x ++ w2)) → va_S A0 H0 H1 locs1 → W p l e R s m args below meth c H1 locs1 (cells + rm.cells) (slots + rm.slots) Q (F0 m (pc + 3) ls (v.toList ++ rest))) :
    W p l e R s m args below meth c H locs cells slots Q (F0 m pc ls st0) := by
  have hPc : va_P D vwCl wc H := kb_sub (by rw [← hsp]; exact hP)
  have hDc : va_D (fun _ => True) wc := kb_subD (by rw [← hsp]; exact hD)
  exact run_gon (va_runIN S (hM H.size) ⟨va_cnB n S.2.2.2.2 (gI hw2.2.2) rfl rfl rfl hw1 (S.2.2.2.2 _ hw2.2.1) hd hR, hyn, S.2.2.2.2 _ hw2.1⟩ ⟨pw_blind, fun U hU hW => ⟨rfl, by rw [hU], by rw [hU]; exact hPc, va_K.moved hW.alike hK, hDc⟩⟩ rfl hn hls hst (lv_room hroom) hdg hf) hP hD hS hA hsp kk
end KM
theorem ra_bool {s : State} (c d : ClassId) (h1 : va_RA s c .boolean) (h2 : va_RA s d .boolean) : c = d := Option.some.inj ((va_nm_boolean h1).symm.trans (va_nm_boolean h2))
theorem nowF_z : nowF (fun _ _ => 0) = fun _ => 0 := by
  funext j
  unfold nowF
  split
  · split <;> rfl
  · split
    · rfl
    · split
      · rfl
      · split <;> rfl
abbrev fs0 : List Value := [.null, .null, .null, .null, .null, .null, .null, .null, .null, .null, .null, .int 0, .int 0, .int 0, .int 0, .int 0]
abbrev fs2 : List Value := [.int 0, .int 0, .int 0, .int 0, .null, .null, .null, .null, .null, .null, .null, .null, .null, .null]
