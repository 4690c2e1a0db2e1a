-- OWN KIT 5: methods with a table of their own that return; the row of one long
abbrev lC (cL : ClassId) (q : Nat) (f : Nat → Int64) : va_W := [(q, .inl (cL, 1, .inr (.inl f)))]
theorem spX (a b c d : va_W) : a ++ (b ++ (c ++ d)) = [] ++ ((a ++ (b ++ c)) ++ d) := by simp
abbrev wLH (y : MethodName) (c : ByteArray) (n : Nat) (r : Option FieldType) (hh : List (Nat × Nat × Nat × Nat)) : List Cond := Cond.codeWith y c n r hh :: LW
def MH {ι : Type} (l : Launch) (y : MethodName) (c : ByteArray) (n : Nat) (r : Option FieldType) (hh : List (Nat × Nat × Nat × Nat)) (rm : Room) (D : va_G) (tys : List (ClassId × FieldType)) (av : List Value) (wc : va_W) (wc' : ι → va_W) (v : Option Value) : Prop := ∀ sz, Met l y (wLH y c n r hh) rm (va_Pc av (pwx D tys wc sz)) (qvn D tys (va_A wc sz) wc' v) rm.cells rm.slots (va_A wc sz)
theorem gSH {own : String} {idx n : Nat} {y : MethodName} {bt : ByteArray} {r : Option FieldType} {hh : List (Nat × Nat × Nat × Nat)} (h1 : Cond.methodLink own idx y ∈ LW) (h2 : Cond.static y ∈ LW ∧ Cond.initialized y.cls ∈ LW ∧ Cond.codeWith y bt n r hh ∈ LW) : GoodIn LW (va_wsS own idx y (wLH y bt n r hh)) := by
  intro w hw
  refine LW_good w ?_
  obtain ⟨h3, h4, h5⟩ := h2
  simp only [va_wsS, wLH, List.mem_append, List.mem_cons, List.not_mem_nil, or_false] at hw
  rcases hw with (rfl | rfl | rfl) | (rfl | h) <;> assumption
section KH
variable {p : Program} {l : Launch} {e : Env} {R : Room} {s : State} {m : MethodId} {args : Array Value} {below : List Frame} {meth : Method} {c : Code} {H : Heap} {locs : List Loc} {cells slots : Nat} {Q : State → Prop}
variable {D : va_G} {tys : List (ClassId × FieldType)} {A A0 : Nat → Prop} {pc : Nat} {ls : Array Slot} {rest st0 : List Value} {cc : ByteArray} {ι : Type}
theorem MH.of {y : MethodName} {rm : Room} {av : List Value} {wc : va_W} {wc' : ι → va_W} {v : Option Value} {maxL : Nat} {ret : Option FieldType} {hh : List (Nat × Nat × Nat × Nat)}
    (hy : plainName y.cls = true) (hlen : (lg_sl av).length ≤ maxL)
    (body : ∀ (p : Program) (e : Env) (s : State) (m : MethodId) (args : Array Value) (below : List Frame) (meth : Method) (c : Code) (A : Nat → Prop) (ls : Array Slot) (Q : State → Prop),
      p.tables.exec = Jvm.exec → c.code = cc → c.maxLocals = maxL → meth.sig.returnType = ret → (∀ w ∈ LW, w.before args s = true) → s.vm.findClass y.cls = some m.cls → meth.locks = false →
      (∀ q : Nat, s.heap.size ≤ q → A q) → va_P D vwCl wc s.heap → va_D A wc → va_K D vwCl tys s → va_S A s.heap s.heap [] → lv_has ls maxL (lv_args 0 av) → Q = MQ below (qvn D tys A wc' v) args s rm.cells rm.slots A → EX A s s.heap → c.exceptionTable.toList = tableOf hh →
      W p l e rm s m args below meth c s.heap [] 0 0 Q (F0 m 0 ls [])) : MH l y cc maxL ret hh rm D tys av wc wc' v := by
  intro sz
  refine MetFree.of_bodyS (code := cc) (maxLocals := maxL) (ret := ret) hy ?_ ?_
  · intro args s m h hn
    obtain ⟨m9, meth, c, hn9, h1, h2, h3, h4, -, h5, h6, -⟩ := Cond.codeWith_spec (atoms_spec (ws := wLH y cc maxL ret hh) h _ List.mem_cons_self)
    cases hn.symm.trans hn9
    exact ⟨meth, c, h1, h2, h3, h4, h5, h6⟩
  · intro p e s m args below meth c s₁ B hml hv _
    have hh0 : s₁.heap = s.heap := by rw [B.state]; rfl
    have htab := vx_table (x := y) B (atoms_spec (ws := wLH y cc maxL ret hh) B.pre _ List.mem_cons_self)
    obtain ⟨rfl, ⟨hsz, hP, hK, hD0⟩, hE⟩ := hv
    subst hsz
    have k := body p e s m av.toArray below meth c (va_A wc s.heap.size) _ _ B.exec B.bytes hml B.returns (fun w h => atoms_spec (ws := wLH y cc maxL ret hh) B.pre w (List.mem_cons_of_mem _ h)) (findClass_of_methodNamed B.named) B.notSynchronized (fun q h => Or.inr h) hP hD0.self hK va_S.rf (lv_entry av hlen) rfl hE htab
    rw [← lg_entry_eq] at k
    obtain ⟨t, a1, o, b1, b2, b3⟩ := k s₁ hh0 (Stand.of_body B)
    exact ⟨t, o, a1, b1, b2, ⟨b3.1, b3.2⟩⟩
theorem xni {wc : va_W} {wc' : ι → va_W} {v r : Int32} (x : ι) (hx : p.tables.exec = Jvm.exec) (hb : c.code = cc) (hr : meth.sig.returnType = some .int) (hlocks : meth.locks = false) (hK : va_K D vwCl tys s) (hP : va_P D vwCl wc H) (hD : va_D A wc) (hS : va_S A s.heap H locs) (hdg : decode cc pc = .ok (.ireturn, 1)) (hw : wc = wc' x) (hv : v = r) :
    W p l e R s m args below meth c H locs cells slots (MQ below (qvn D tys A wc' (some (.int r))) args s cells slots A) (F0 m pc ls [.int v]) := by
  subst hw; subst hv
  exact W.iret hx hb hr (fun t ht hW => ⟨⟨x, rfl, by rw [ht]; exact hP, va_K.moved hW.alike hK, hD⟩, hS.F ht⟩) hS.2.2 hdg hlocks
theorem MH.callS {own : String} {nL n index maxL : Nat} {bytes : ByteArray} {ret : Option FieldType} {hh : List (Nat × Nat × Nat × Nat)} {y : MethodName} {rm : Room} {As : List Value} {wc w0 w2 wA : va_W} {wc' : ι → va_W} {v : Option Value}
    (hM : MH l y bytes maxL ret hh rm D tys As wc wc' v) (S : CallFix p m c cc nL s args LW own) (hw1 : Cond.methodLink own index y ∈ LW) (hw2 : Cond.static y ∈ LW ∧ Cond.initialized y.cls ∈ LW ∧ Cond.codeWith y bytes maxL ret hh ∈ LW)
    (hd : y.cls ≠ "java/lang/invoke/MethodHandle" ∧ y.cls ≠ "java/lang/invoke/VarHandle" ∧ (parseMethodDescriptor y.desc).map (fun d => d.parameters.length) = some n) (hR : rm.frames + 1 ≤ R.frames ∧ 8 + (maxL + 11) + rm.locals ≤ R.locals)
    (hK : va_K D vwCl tys s) (hP : va_P D vwCl wA H) (hD : va_D A0 wA) (hS : va_S A0 s.heap H locs) (hA : ∀ q, s.heap.size ≤ q → A0 q) (hE : EX A0 s s.heap) (hsp : wA = w0 ++ (wc ++ w2))
    (hn : As.length = n) (hls : ls.size = nL) (hst : st0 = As.reverse ++ rest) (hroom : (rest.map fun v => v.category).sum ≤ 8)
    (hdg : decode cc pc = .ok (.invokestatic index, 3)) (hf : cells + rm.cells ≤ R.cells ∧ slots + rm.slots ≤ R.slots)
    (kk : ∀ (x : ι) (H1 : Heap) (locs1 : List Loc), va_P D vwCl (w0 ++ (wc' x ++ w2)) H1 → va_D A0 (w0 ++ (wc' x ++ w2)) → va_S A0 s.heap H1 locs1 → W p l e R s m args below meth c H1 locs1 (cells + rm.cells) (slots + rm.slots) Q (F0 m (pc + 3) ls (v.toList ++ rest))) :
    W p l e R s m args below meth c H locs cells slots Q (F0 m pc ls st0) := by
  have hPc : va_P D vwCl wc H := kb_sub (by rw [← hsp]; exact hP)
  have hDc : va_D (fun _ => True) wc := kb_subD (by rw [← hsp]; exact hD)
  exact run_gon (vx_runSW S (hM H.size) (vx_cwSW n S.2.2.2.2 (gSH hw1 hw2) rfl rfl rfl hd hR) ⟨pwx_blind, fun U hU hW => ⟨rfl, ⟨by rw [hU], by rw [hU]; exact hPc, va_K.moved hW.alike hK, hDc⟩, EX.go hE hS (by rw [← hsp]; exact hD) hA hU hW⟩⟩ rfl hn hls hst (lv_room hroom) hdg hf) hP hD hS hA hsp kk
end KH
