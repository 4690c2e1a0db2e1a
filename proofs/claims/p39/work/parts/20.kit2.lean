-- OWN KIT 2: what a class that throws needs besides its words; methods that throw for sure
def EXW : List Cond := [.fieldLinkNest RX1 48 RX0 "opens" "[Z" RX1, .fieldLinkNest RX1 52 RX0 "rainfall" "I" RX1, .fieldLinkNest RX1 60 RX0 "waters" "[I" RX1, .fieldLinkNest RX1 71 RX0 "clock" "I" RX1, .fieldLinkNest RX1 74 RX0 "fieldCount" "I" RX1, .fieldLinkNest RX1 77 RX0 "drainCount" "I" RX1, .fieldLinkNest RX1 80 RX0 "toSea" "I" RX1, .fieldLinkNest RX1 94 RX0 "wetHours" "[I" RX1, .fieldLinkNest RX1 97 RX0 "ruined" "[Z" RX1, .fieldLinkNest RX1 100 RX0 "froms" "[I" RX1, .fieldLinkNest RX1 103 RX0 "tos" "[I" RX1, .fieldLinkNest RX1 114 RX0 "pumps" "[Z" RX1, .fieldLinkNest RX1 117 RX0 "carried" "[I" RX1,
  .methodLinkNest RX1 9 yX0_init RX1, .methodLinkNest RL 59 yX2_init RL]
/-- what the tables say of the rows' rows -/
def va_AM (U : State) : Prop := (Cond.arrayOver (.array .int)).before #[] U = true
theorem va_AM.of {A : Array Value} {U : State} (h : (Cond.arrayOver (.array .int)).before A U = true) : va_AM U := h
theorem va_AM.use {A : Array Value} {U : State} (h : va_AM U) : (Cond.arrayOver (.array .int)).before A U = true := h
theorem va_AM.moved {u U : State} (hvm : u.vm.Alike U.vm) (h : va_AM u) : va_AM U := by
  obtain ⟨comp, c, k, h1, h2, h3, h4, h5⟩ := arrayOverA_spec h
  obtain ⟨k', hk', he⟩ := hvm.2.2 _ _ h3
  have hi : (U.vm.classes.findIdx? fun (x : Class) => match x.kind with | .array component _ => component == comp | _ => false) = some c := by
    rw [hvm.findIdx?_eq _ (fun _ => rfl)]
    exact h2
  have hkind : k'.kind = .array comp (.array .int) := by rw [he]; exact h4
  have f1 : U.vm.findClass (FieldType.array .int).toString = some comp := by rw [hvm.findClass]; exact h1
  have f2 : U.vm.findClass ("[" ++ (FieldType.array .int).toString) = some c := by rw [hvm.findClass]; exact h5
  unfold va_AM Cond.before Cond.holds
  simp only [Cond.value]
  rw [f1, Option.bind_some]
  refine (congrArg (fun o : Option Nat => (o.bind (fun c => (U.vm.classes[c]?).map fun (k : Class) => match k.kind with | .array _ ty => decide (ty = FieldType.array .int) && decide (U.vm.findClass ("[" ++ (FieldType.array .int).toString) = some c) | _ => false) == some true)) hi).trans ?_
  simp [hk', hkind, f2]
def EX (_ : Nat → Prop) (U : State) (_ : Heap) : Prop := (∀ w ∈ EXW, va_Nw w U) ∧ va_AM U
theorem EXW_ok : EXW.all (fun w => w.onTables) = true := by decide +kernel
theorem EXW_warm {s U : State} (hW : s.WarmedH U.vm) (h : ∀ w ∈ EXW, va_Nw w s) : ∀ w ∈ EXW, va_Nw w U := by
  intro w hw
  have h0 := h w hw
  simp only [EXW, List.mem_cons, List.not_mem_nil, or_false] at hw
  rcases hw with rfl | rfl | rfl | rfl | rfl | rfl | rfl | rfl | rfl | rfl | rfl | rfl | rfl | rfl | rfl
  all_goals first | exact va_Nw.warmF hW h0 | exact va_Nw.warmM hW h0
theorem EX.warm {A : Nat → Prop} {s U : State} {H : Heap} (hW : s.WarmedH U.vm) (h : EX A s H) : EX A U H := ⟨EXW_warm hW h.1, h.2.moved hW.alike⟩
theorem EX.same {A : Nat → Prop} {s U : State} {H : Heap} (hv : U.vm = s.vm) (h : EX A s H) : EX A U H := ⟨fun w hw => (h.1 w hw).same (List.all_eq_true.mp EXW_ok w hw) hv.symm, h.2.moved (by rw [hv]; exact Vm.Alike.refl _)⟩
theorem EX.kept {A : Nat → Prop} {s : State} {H H1 : Heap} (h : EX A s H) (_ : ∀ a : Nat, a < H.size → ¬ A a → H1[a]? = H[a]?) : EX A s H1 := h
theorem EX.narrow {A B : Nat → Prop} {s : State} {H : Heap} (h : EX A s H) (_ : ∀ q, B q → A q) : EX B s H := h
theorem EX.w {A : Nat → Prop} {s : State} {H : Heap} (h : EX A s H) (i : Nat) {w : Cond} (hw : EXW[i]? = some w) : va_Nw w s := h.1 w (List.mem_of_getElem? hw)
def pwx (D : va_G) (tys : List (ClassId × FieldType)) (wc : va_W) (sz : Nat) (U : State) : Prop := pw D tys wc sz U ∧ EX (va_A wc sz) U U.heap
/-- the end, where one state of the world is any -/
def qvx (D : va_G) (tys : List (ClassId × FieldType)) (A : Nat → Prop) (wc' : Sg → va_W) (v : Option Value) : Array Value → State → Outcome → State → Prop := fun _ st o t => (∃ ρ : Sg, o = .returned v ∧ va_P D vwCl (wc' ρ) t.heap ∧ va_K D vwCl tys t ∧ va_D A (wc' ρ)) ∧ va_F A st t
def MX (l : Launch) (y : MethodName) (c : ByteArray) (n : Nat) (r : Option FieldType) (rm : Room) (D : va_G) (tys : List (ClassId × FieldType)) (av : List Value) (wc : va_W) (wc' : Sg → va_W) (v : Option Value) : Prop := ∀ sz, Met l y (wL y c n r) rm (va_Pc av (pwx D tys wc sz)) (qvx D tys (va_A wc sz) wc' v) rm.cells rm.slots (va_A wc sz)
theorem pwx_blind {D : va_G} {tys : List (ClassId × FieldType)} {av : List Value} {wc : va_W} {sz : Nat} : FrameBlind (va_Pc av (pwx D tys wc sz)) := fun a U g mk q => by
  obtain ⟨q0, ⟨q1, qP, qK, qD⟩, qE⟩ := q
  exact ⟨q0, ⟨q1, qP, va_K.moved (u := U) (U := U.calling g mk a) (Vm.Alike.refl U.vm) qK, qD⟩, EX.same (s := U) (U := U.calling g mk a) rfl qE⟩
section KX
variable {p : Program} {l : Launch} {e : Env} {R : Room} {s : State} {m : MethodId} {args : Array Value} {below : List Frame} {meth : Method} {c : Code} {H : Heap} {locs : List Loc} {cells slots : Nat} {Q : State → Prop}
variable {D : va_G} {tys : List (ClassId × FieldType)} {A A0 : Nat → Prop} {pc : Nat} {ls : Array Slot} {rest st0 : List Value} {cc : ByteArray}
theorem MX.of {y : MethodName} {rm : Room} {av : List Value} {wc : va_W} {wc' : Sg → va_W} {v : Option Value} {maxL : Nat} {ret : Option FieldType}
    (hy : plainName y.cls = true) (hlen : (lg_sl av).length ≤ maxL)
    (body : ∀ (p : Program) (e : Env) (s : State) (m : MethodId) (args : Array Value) (below : List Frame) (meth : Method) (c : Code) (A : Nat → Prop) (ls : Array Slot) (Q : State → Prop),
      p.tables.exec = Jvm.exec → c.code = cc → c.maxLocals = maxL → meth.sig.returnType = ret → (∀ w ∈ LW, w.before args s = true) → s.vm.findClass y.cls = some m.cls → meth.locks = false →
      (∀ q : Nat, s.heap.size ≤ q → A q) → va_P D vwCl wc s.heap → va_D A wc → va_K D vwCl tys s → va_S A s.heap s.heap [] → lv_has ls maxL (lv_args 0 av) → Q = MQ below (qvx D tys A wc' v) args s rm.cells rm.slots A → EX A s s.heap →
      W p l e rm s m args below meth c s.heap [] 0 0 Q (F0 m 0 ls [])) : MX l y cc maxL ret rm D tys av wc wc' v := by
  intro sz
  refine Met.ofW (cc := cc) (maxL := maxL) (ret := ret) hy rfl ?_
  intro p e s m args below meth c s₁ B hml hv
  obtain ⟨rfl, ⟨hsz, hP, hK, hD0⟩, hE⟩ := hv
  subst hsz
  rw [lg_entry_eq]
  exact body p e s m av.toArray below meth c (va_A wc s.heap.size) _ _ B.exec B.bytes hml B.returns (fun w h => atoms_spec (ws := wL y cc maxL ret) B.pre w (List.mem_cons_of_mem _ h)) (findClass_of_methodNamed B.named) B.notSynchronized (fun q h => Or.inr h) hP hD0.self hK va_S.rf (lv_entry av hlen) rfl hE
/-- what the callee needs, out of the caller's -/
theorem EX.go {wc w0 w2 : va_W} (hE : EX A0 s s.heap) (hS : va_S A0 s.heap H locs) (hD : va_D A0 (w0 ++ (wc ++ w2))) (hA : ∀ q, s.heap.size ≤ q → A0 q) {U : State} (hU : U.heap = H) (hW : s.WarmedH U.vm) : EX (va_A wc H.size) U U.heap := by
  rw [hU]
  exact ((hE.kept hS.2.1).narrow (kb_free hD hS hA)).warm hW
theorem run_gox {wc w0 w2 wA : va_W} {wc' wB : Sg → va_W} {v : Option Value} {mc ms : Nat} {a : Array Value} {H0 : Heap}
    (hr : va_Run p l e R s m args below meth c H locs cells slots mc ms (F0 m pc ls st0) rest (qvx D tys (va_A wc H.size) wc' v a) (va_A wc H.size))
    (hP : va_P D vwCl wA H) (hD : va_D A0 wA) (hS : va_S A0 H0 H locs) (hA : ∀ q, H0.size ≤ q → A0 q) (hsp : wA = w0 ++ (wc ++ w2)) (hsp' : ∀ ρ, wB ρ = w0 ++ (wc' ρ ++ w2))
    (kk : ∀ (ρ : Sg) (H1 : Heap) (locs1 : List Loc), va_P D vwCl (wB ρ) H1 → va_D A0 (wB ρ) → va_S A0 H0 H1 locs1 → W p l e R s m args below meth c H1 locs1 (cells + mc) (slots + ms) Q (F0 m (pc + 3) ls (v.toList ++ rest))) :
    W p l e R s m args below meth c H locs cells slots Q (F0 m pc ls st0) := by
  subst hsp
  have hf := kb_free hD hS hA
  intro T hT X
  obtain ⟨v', st₀, t, T', L, h0, X', hL, e1, e2, ⟨⟨ρ, hv, hP1, hK1, hD1⟩, hz, hk⟩, st⟩ := hr T hT X
  cases hv
  rw [h0] at hz hk
  rw [← e1] at hP1 hz hk
  obtain ⟨j1, j2⟩ := kb_join hP hD hk hP1 hD1 hf
  rw [← hsp' ρ] at j1 j2
  obtain ⟨t2, a1, b1⟩ := kk ρ T'.heap (locs ++ L) j1 j2
    ⟨Nat.le_trans hS.1 hz, fun q h1 h2 => by rw [hk q (Nat.lt_of_lt_of_le h1 hS.1) (fun z => h2 (hf q z))]; exact hS.2.1 q h1 h2, fun q hq => by
      rcases List.mem_append.mp hq with h | h
      · exact hS.2.2 q h
      · exact hf _ (hL q h)⟩ T' rfl X'
  exact ⟨t2, st t2 a1, b1⟩
theorem MX.callV {own C : String} {T : u_T} {N ci q0 nL n index maxL : Nat} {bytes : ByteArray} {ret : Option FieldType} {y : MethodName} {rm : Room} {As : List Value} {b : Nat} {fs : List Value} {wc w0 w2 wA : va_W} {wc' wB : Sg → va_W} {v : Option Value}
    (hM : MX l y bytes maxL ret rm D tys (.ref b :: As) wc wc' v) (S : CallFix p m c cc nL s args LW own) (hw1 : Cond.methodLink own index y ∈ LW) (hw2 : Cond.instanceMethod y ∈ LW ∧ Cond.selects C y y ∈ LW ∧ Cond.initialized C ∈ LW ∧ Cond.code y bytes maxL ret ∈ LW)
    (hd : y.cls = C ∧ y.cls ≠ "java/lang/invoke/MethodHandle" ∧ y.cls ≠ "java/lang/invoke/VarHandle" ∧ (parseMethodDescriptor y.desc).map (fun d => d.parameters.length) = some n) (hR : rm.frames + 1 ≤ R.frames ∧ 8 + (maxL + 11) + rm.locals ≤ R.locals)
    (hK : va_K D vwCl tys s) (hP : va_P D vwCl wA H) (hD : va_D A0 wA) (hS : va_S A0 s.heap H locs) (hA : ∀ q, s.heap.size ≤ q → A0 q) (hE : EX A0 s s.heap) (hsp : wA = w0 ++ (wc ++ w2)) (hsp' : ∀ ρ, wB ρ = w0 ++ (wc' ρ ++ w2))
    (hci : vwCl[ci]? = some (C, T, N)) (hrec : wA[q0]? = some (b, .inr (ci, fs))) (hn : As.length = n) (hls : ls.size = nL) (hst : st0 = As.reverse ++ .ref b :: rest) (hroom : (rest.map fun v => v.category).sum ≤ 8)
    (hdg : decode cc pc = .ok (.invokevirtual index, 3)) (hf : cells + rm.cells ≤ R.cells ∧ slots + rm.slots ≤ R.slots)
    (kk : ∀ (ρ : Sg) (H1 : Heap) (locs1 : List Loc), va_P D vwCl (wB ρ) H1 → va_D A0 (wB ρ) → va_S A0 s.heap H1 locs1 → W p l e R s m args below meth c H1 locs1 (cells + rm.cells) (slots + rm.slots) Q (F0 m (pc + 3) ls (v.toList ++ rest))) :
    W p l e R s m args below meth c H locs cells slots Q (F0 m pc ls st0) := by
  have hPc : va_P D vwCl wc H := kb_sub (by rw [← hsp]; exact hP)
  have hDc : va_D (fun _ => True) wc := kb_subD (by rw [← hsp]; exact hD)
  exact run_gox (va_runV S (hM H.size) (cwV n S.2.2.2.2 (gV hw1 hw2) rfl rfl rfl hd hR) ⟨pwx_blind, va_recv hK hP hci hrec, fun U hU hW => ⟨rfl, ⟨by rw [hU], by rw [hU]; exact hPc, va_K.moved hW.alike hK, hDc⟩, EX.go hE hS (by rw [← hsp]; exact hD) hA hU hW⟩⟩ rfl hn hls hst (lv_room hroom) hdg hf) hP hD hS hA hsp hsp' kk
theorem MX.callS {own : String} {nL n index maxL : Nat} {bytes : ByteArray} {ret : Option FieldType} {y : MethodName} {rm : Room} {As : List Value} {wc w0 w2 wA : va_W} {wc' wB : Sg → va_W} {v : Option Value}
    (hM : MX l y bytes maxL ret rm D tys As wc wc' v) (S : CallFix p m c cc nL s args LW own) (hw1 : Cond.methodLink own index y ∈ LW) (hw2 : Cond.static y ∈ LW ∧ Cond.initialized y.cls ∈ LW ∧ Cond.code y bytes maxL ret ∈ LW)
    (hd : y.cls ≠ "java/lang/invoke/MethodHandle" ∧ y.cls ≠ "java/lang/invoke/VarHandle" ∧ (parseMethodDescriptor y.desc).map (fun d => d.parameters.length) = some n) (hR : rm.frames + 1 ≤ R.frames ∧ 8 + (maxL + 11) + rm.locals ≤ R.locals)
    (hK : va_K D vwCl tys s) (hP : va_P D vwCl wA H) (hD : va_D A0 wA) (hS : va_S A0 s.heap H locs) (hA : ∀ q, s.heap.size ≤ q → A0 q) (hE : EX A0 s s.heap) (hsp : wA = w0 ++ (wc ++ w2)) (hsp' : ∀ ρ, wB ρ = w0 ++ (wc' ρ ++ w2))
    (hn : As.length = n) (hls : ls.size = nL) (hst : st0 = As.reverse ++ rest) (hroom : (rest.map fun v => v.category).sum ≤ 8)
    (hdg : decode cc pc = .ok (.invokestatic index, 3)) (hf : cells + rm.cells ≤ R.cells ∧ slots + rm.slots ≤ R.slots)
    (kk : ∀ (ρ : Sg) (H1 : Heap) (locs1 : List Loc), va_P D vwCl (wB ρ) H1 → va_D A0 (wB ρ) → va_S A0 s.heap H1 locs1 → W p l e R s m args below meth c H1 locs1 (cells + rm.cells) (slots + rm.slots) Q (F0 m (pc + 3) ls (v.toList ++ rest))) :
    W p l e R s m args below meth c H locs cells slots Q (F0 m pc ls st0) := by
  have hPc : va_P D vwCl wc H := kb_sub (by rw [← hsp]; exact hP)
  have hDc : va_D (fun _ => True) wc := kb_subD (by rw [← hsp]; exact hD)
  exact run_gox (va_runS S (hM H.size) (va_cwS n S.2.2.2.2 (gS hw1 hw2) rfl rfl rfl hd hR) ⟨pwx_blind, fun U hU hW => ⟨rfl, ⟨by rw [hU], by rw [hU]; exact hPc, va_K.moved hW.alike hK, hDc⟩, EX.go hE hS (by rw [← hsp]; exact hD) hA hU hW⟩⟩ rfl hn hls hst (lv_room hroom) hdg hf) hP hD hS hA hsp hsp' kk
theorem x_getN {own C host : String} {T : u_T} {N ci index : Nat} {cl : List vw_C} {ws : va_W} {a : Nat} (hx : p.tables.exec = Jvm.exec) (hb : c.code = cc) (hts : ∀ w ∈ LW, w.before args s = true) (hin : ∀ w ∈ u_ws C T N, w ∈ LW) (hown : s.vm.findClass own = some m.cls) (hK : va_K D cl tys s) (hP : va_P D cl ws H) (q0 : Nat) {fs : List Value} (he : ws[q0]? = some (a, .inr (ci, fs))) (hc : cl[ci]? = some (C, T, N)) (k : Nat) (hk : k < N) (hlink : va_Nw (Cond.fieldLinkNest own index (T k).1 (T k).2.1 (T k).2.2.1 host) s) {v : Value} (hv : fs[k]? = some v) (hdg : decode cc pc = .ok (.getfield index, 3))
    (kk : W p l e R s m args below meth c H locs cells slots Q (F0 m (pc + 3) ls (v :: rest))) : W p l e R s m args below meth c H locs cells slots Q (F0 m pc ls (.ref a :: rest)) :=
  va_getN hx hb hts hin hown hK hP q0 he hc k hk (va_Nw.use rfl hlink) (fun _ h => h) hv hdg kk
theorem x_putN {own C host : String} {T : u_T} {N ci index : Nat} {cl : List vw_C} {ws ws2 : va_W} {a : Nat} {H0 : Heap} {ty0 : Nat → FieldType} (hx : p.tables.exec = Jvm.exec) (hb : c.code = cc) (hts : ∀ w ∈ LW, w.before args s = true) (hin : ∀ w ∈ u_ws C T N, w ∈ LW) (hty : ∀ k, k < N → parseFieldDescriptor (T k).2.2.1 = some (ty0 k)) (hnm : ∀ a, a < N → ∀ b, b < N → a ≠ b → (T a).2.1 ≠ (T b).2.1) (hown : s.vm.findClass own = some m.cls) (hK : va_K D cl tys s) (hP : va_P D cl ws H) (hD : va_D A ws) (hS : va_S A H0 H locs) (q0 : Nat) {fs : List Value} (he : ws[q0]? = some (a, .inr (ci, fs))) (hc : cl[ci]? = some (C, T, N)) (k : Nat) (hk : k < N) (hlink : va_Nw (Cond.fieldLinkNest own index (T k).1 (T k).2.1 (T k).2.2.1 host) s) (hfin : (T k).2.2.2 = false) {x : Int32} (hd : parseFieldDescriptor (T k).2.2.1 = some .int) (hl : k < fs.length) (hw : ws.set q0 (a, .inr (ci, fs.set k (.int x))) = ws2) (hdg : decode cc pc = .ok (.putfield index, 3))
    (kk : ∀ (H1 : Heap) (locs1 : List Loc), va_P D cl ws2 H1 → va_D A ws2 → va_S A H0 H1 locs1 → W p l e R s m args below meth c H1 locs1 cells slots Q (F0 m (pc + 3) ls rest)) : W p l e R s m args below meth c H locs cells slots Q (F0 m pc ls (.int x :: .ref a :: rest)) := by
  subst hw
  exact va_putN hx hb hts hin ty0 hty hnm hown hK hP hD hS q0 he hc k hk (va_Nw.use rfl hlink) (fun _ h => h) hfin (ty := .int) hd rfl rfl hl hdg kk
theorem xri {wc : va_W} {wc' : Sg → va_W} {v r : Int32} (ρ : Sg) (hx : p.tables.exec = Jvm.exec) (hb : c.code = cc) (hr : meth.sig.returnType = some .int) (hlocks : meth.locks = false) (hK : va_K D vwCl tys s) (hP : va_P D vwCl wc H) (hD : va_D A wc) (hS : va_S A s.heap H locs) (hdg : decode cc pc = .ok (.ireturn, 1)) (hw : wc = wc' ρ) (hv : v = r) :
    W p l e R s m args below meth c H locs cells slots (MQ below (qvx D tys A wc' (some (.int r))) args s cells slots A) (F0 m pc ls [.int v]) := by
  subst hw; subst hv
  exact W.iret hx hb hr (fun t ht hW => ⟨⟨ρ, rfl, by rw [ht]; exact hP, va_K.moved hW.alike hK, hD⟩, hS.F ht⟩) hS.2.2 hdg hlocks
theorem xrl {wc : va_W} {wc' : Sg → va_W} {v r : Int64} (ρ : Sg) (hx : p.tables.exec = Jvm.exec) (hb : c.code = cc) (hr : meth.sig.returnType = some .long) (hlocks : meth.locks = false) (hK : va_K D vwCl tys s) (hP : va_P D vwCl wc H) (hD : va_D A wc) (hS : va_S A s.heap H locs) (hdg : decode cc pc = .ok (.lreturn, 1)) (hw : wc = wc' ρ) (hv : v = r) :
    W p l e R s m args below meth c H locs cells slots (MQ below (qvx D tys A wc' (some (.long r))) args s cells slots A) (F0 m pc ls [.long v]) := by
  subst hw; subst hv
  exact W.lret hx hb hr (fun t ht hW => ⟨⟨ρ, rfl, by rw [ht]; exact hP, va_K.moved hW.alike hK, hD⟩, hS.F ht⟩) hS.2.2 hdg hlocks
theorem xrz {wc : va_W} {wc' : Sg → va_W} {v r : Int32} (ρ : Sg) (hx : p.tables.exec = Jvm.exec) (hb : c.code = cc) (hr : meth.sig.returnType = some .boolean) (hlocks : meth.locks = false) (hK : va_K D vwCl tys s) (hP : va_P D vwCl wc H) (hD : va_D A wc) (hS : va_S A s.heap H locs) (hdg : decode cc pc = .ok (.ireturn, 1)) (h01 : v = 0 ∨ v = 1) (hw : wc = wc' ρ) (hv : v = r) :
    W p l e R s m args below meth c H locs cells slots (MQ below (qvx D tys A wc' (some (.int r))) args s cells slots A) (F0 m pc ls [.int v]) := by
  subst hw; subst hv
  exact W.zret hx hb hr (by rcases h01 with rfl | rfl <;> rfl) (fun t ht hW => ⟨⟨ρ, rfl, by rw [ht]; exact hP, va_K.moved hW.alike hK, hD⟩, hS.F ht⟩) hS.2.2 hdg hlocks
theorem xrv {wc : va_W} {wc' : Sg → va_W} (ρ : Sg) (hx : p.tables.exec = Jvm.exec) (hb : c.code = cc) (hr : meth.sig.returnType = none) (hlocks : meth.locks = false) (hK : va_K D vwCl tys s) (hP : va_P D vwCl wc H) (hD : va_D A wc) (hS : va_S A s.heap H locs) (hdg : decode cc pc = .ok (.return_, 1)) (hw : wc = wc' ρ) :
    W p l e R s m args below meth c H locs cells slots (MQ below (qvx D tys A wc' none) args s cells slots A) (F0 m pc ls []) := by
  subst hw
  exact W.vret hx hb hr (fun t ht hW => ⟨⟨ρ, rfl, by rw [ht]; exact hP, va_K.moved hW.alike hK, hD⟩, hS.F ht⟩) hS.2.2 hdg hlocks
end KX
