-- OWN KIT G: a Sim's rows grow by one
abbrev S0 : Sg := fun _ _ => 0
theorem pm {α : Type} {a b : List α} (h : ∀ (i : DecidableEq α) (x : α), a.count x = b.count x) : a.Perm b := by
  letI : DecidableEq α := fun a b => Classical.propDecidable (a = b)
  exact List.perm_iff_count.mpr (fun x => h _ x)
/-- a row of references beyond its length doesn't matter -/
theorem kb_rowq {D : va_G} {cl : List vw_C} {A : Nat → Prop} {ws : va_W} {H : Heap} {k a n : Nat} {c : ClassId} {f g : Nat → Option Nat} (hP : va_P D cl ws H) (hD : va_D A ws) (hk : ws[k]? = some (a, .inl (c, n, .inr (.inr (.inr (.inr f)))))) (h : ∀ j, j < n → f j = g j) : va_P D cl (ws.set k (a, .inl (c, n, .inr (.inr (.inr (.inr g)))))) H ∧ va_D A (ws.set k (a, .inl (c, n, .inr (.inr (.inr (.inr g)))))) := by
  refine ⟨hP.set hD hk ?_ (fun _ _ => rfl), hD.set hk⟩
  have h0 : H[a]? = some (vp_cell c (n, .inr (.inr (.inr (.inr f))))) := hP k _ hk
  show H[a]? = some (vp_cell c (n, .inr (.inr (.inr (.inr g)))))
  rw [h0, vp_cell_q, vp_cell_q]
  congr 1
  simp only [arrV]
  congr 1
  apply Array.ext
  · simp
  · intro i h1 h2
    simp at h1
    simp [h i h1]
/-- what 'with' needs: the rows that are, and the new one -/
def wI (cI cN : ClassId) (fa n : Nat) (r : Nat → Nat) (m : Nat) (g : Nat → Nat → Int32) (v : Nat) (h : Nat → Int32) : va_W := [(fa, .inl (cN, n, rfs r))] ++ (rW cI m r g n ++ [(v, .inl (cI, m, .inl h))])
abbrev qI (cN : ClassId) (q n : Nat) (f : Nat → Option Nat) : va_W := [(q, .inl (cN, n, .inr (.inr (.inr (.inr f)))))]
def upto (r : Nat → Nat) (i : Nat) : Nat → Option Nat := fun j => if j < i then some (r j) else none
theorem upto_0 (r : Nat → Nat) : upto r 0 = fun _ => none := by
  funext j; unfold upto; rw [if_neg (by omega)]
theorem upto_s (r : Nat → Nat) (i : Nat) : va_up (upto r i) i (some (r i)) = upto r (i + 1) := by
  funext j
  unfold va_up upto
  by_cases e : j = i
  · subst e; rw [if_pos rfl, if_pos (by omega)]
  · rw [if_neg e]
    by_cases h : j < i
    · rw [if_pos h, if_pos (by omega)]
    · rw [if_neg h, if_neg (by omega)]
theorem upto_e (r : Nat → Nat) (n v : Nat) {j : Nat} (h : j < n + 1) : va_up (upto r n) n (some v) j = some (va_up r n v j) := by
  unfold va_up upto
  by_cases e : j = n
  · rw [if_pos e, if_pos e]
  · rw [if_neg e, if_neg e, if_pos (by omega)]
section KG
variable {cI cN : ClassId} {fa n : Nat} {r : Nat → Nat} {m : Nat} {g : Nat → Nat → Int32} {v : Nat} {h : Nat → Int32} {x : Nat} {f : Nat → Option Nat}
theorem wI_len : (wI cI cN fa n r m g v h).length = n + 2 := by
  unfold wI; rw [List.length_append, List.length_append, rW_len]; show 1 + (n + 1) = n + 2; omega
theorem wI_0 : (wI cI cN fa n r m g v h ++ qI cN x (n + 1) f)[0]? = some (fa, .inl (cN, n, rfs r)) := rfl
theorem wI_r {i : Nat} (hi : i < n) : (wI cI cN fa n r m g v h ++ qI cN x (n + 1) f)[1 + i]? = some (r i, .inl (cI, m, .inl (g i))) := by
  rw [List.getElem?_append_left (by rw [wI_len]; omega)]
  unfold wI
  rw [List.getElem?_append_right (by show 1 ≤ 1 + i; omega), show 1 + i - [((fa, .inl (cN, n, rfs r)) : Nat × va_E)].length = i by show 1 + i - 1 = i; omega, List.getElem?_append_left (by rw [rW_len]; exact hi)]
  exact rW_at _ _ _ _ hi
theorem wI_v : (wI cI cN fa n r m g v h ++ qI cN x (n + 1) f)[1 + n]? = some (v, .inl (cI, m, .inl h)) := by
  rw [List.getElem?_append_left (by rw [wI_len]; omega)]
  unfold wI
  rw [List.getElem?_append_right (by show 1 ≤ 1 + n; omega), show 1 + n - [((fa, .inl (cN, n, rfs r)) : Nat × va_E)].length = n by show 1 + n - 1 = n; omega, List.getElem?_append_right (by rw [rW_len]; omega), rW_len, Nat.sub_self]
  rfl
theorem wI_q : (wI cI cN fa n r m g v h ++ qI cN x (n + 1) f)[n + 2]? = some (x, .inl (cN, n + 1, .inr (.inr (.inr (.inr f))))) := by
  rw [List.getElem?_append_right (by rw [wI_len]; omega), wI_len, Nat.sub_self]
  rfl
theorem wI_set {f' : Nat → Option Nat} : (wI cI cN fa n r m g v h ++ qI cN x (n + 1) f).set (n + 2) (x, .inl (cN, n + 1, .inr (.inr (.inr (.inr f'))))) = wI cI cN fa n r m g v h ++ qI cN x (n + 1) f' := by
  rw [List.set_append_right _ _ (by rw [wI_len]; omega), wI_len, Nat.sub_self]
  rfl
end KG
theorem b_X2_with : Cond.static yX2_with ∈ LW ∧ Cond.initialized yX2_with.cls ∈ LW ∧ Cond.code yX2_with cX2_with 4 (some (.array (.array .int))) ∈ LW := ⟨q453, q11, q454⟩
abbrev rmX2_with : Room := { frames := 0, cells := 1, slots := 17, locals := 0 }
set_option maxHeartbeats 4000000 in
set_option maxRecDepth 100000 in
theorem c_X2_with (l : Launch) (D : va_G) (cI cZ cL : ClassId) {n wd : Nat} (hn : n ≤ 16) (fa : Nat) (r : Nat → Nat) (g : Nat → Nat → Int32) (v : Nat) (h : Nat → Int32) : MY (ι := Nat) none l yX2_with cX2_with 4 (some (.array (.array .int))) rmX2_with D (tZ cI cZ cL) [.ref fa, .ref v] (wI cI cL fa n r wd g v h) (fun x => wI cI cL fa n r wd g v h ++ qI cL x (n + 1) (fun j => some (va_up r n v j))) (fun x => some (.ref x)) := by
  refine MY.of (by decide) (Nat.le_of_ble_eq_true rfl) ?_
  intro p e s m args below meth c A ls Q hx hb hml hr hts hown hlocks hA hP hD hK hS hl hQ hE hnm
  have hown : s.vm.findClass RX2 = some m.cls := hown
  have hl : lv_has ls 4 [(0, .ref fa), (1, .ref v)] := hl
  refine lv_aload_n hx hb dX2_with_0 rfl (lv_at hl 0 rfl) ?_
  refine va_alen hx hb hK hP 0 2 rfl rfl (v := nI n) rfl dX2_with_1 ?_
  refine lv_iconst (v := 1) hx hb dX2_with_2 (by decide) ?_
  refine lv_iadd hx hb dX2_with_3 ?_
  refine x_top (nI_add n 1) ?_
  refine x_anew hx hb hown (hts _ q431) (va_AM.use hE.1.2) hK hP hD hS hA 2 rfl (N' := n + 1) (Int32.not_lt.mpr (nI_pos' (by omega))) (nI_clamp (by omega)) (by omega) (Nat.le_of_ble_eq_true rfl) (by show 0 + (n + 1) ≤ 17; omega) dX2_with_4 (fun x H hP hD hS => ?_)
  have hP : va_P D vwCl (wI cI cL fa n r wd g v h ++ qI cL x (n + 1) (upto r 0)) H := by rw [upto_0]; exact hP
  have hD : va_D A (wI cI cL fa n r wd g v h ++ qI cL x (n + 1) (upto r 0)) := by rw [upto_0]; exact hD
  refine lv_astore_n (lv' := [(2, .ref x), (0, .ref fa), (1, .ref v)]) hx hb dX2_with_7 rfl hl (by decide) rfl (fun ls hl => ?_)
  refine lv_iconst (v := 0) hx hb dX2_with_8 (by decide) ?_
  refine lv_istore_n (lv' := [(3, .int 0), (2, .ref x), (0, .ref fa), (1, .ref v)]) hx hb dX2_with_9 rfl hl (by decide) rfl (fun ls hl => ?_)
  have L10 : ∀ (f i : Nat), i ≤ n → n < i + f → ∀ (H : Heap) (locs : List Loc) (ls : Array Slot), va_P D vwCl (wI cI cL fa n r wd g v h ++ qI cL x (n + 1) (upto r i)) H → va_D A (wI cI cL fa n r wd g v h ++ qI cL x (n + 1) (upto r i)) → va_S A s.heap H locs → lv_has ls 4 [(3, .int (nI i)), (2, .ref x), (0, .ref fa), (1, .ref v)] → W p l e rmX2_with s m args below meth c H locs (0 + 1) (0 + (n + 1)) Q (F0 m 10 ls []) := by
    intro f
    induction f with
    | zero => intro i h1 h2; exact absurd h2 (by omega)
    | succ f ih =>
      intro i hi hf H locs ls hP hD hS hl
      refine lv_iload_n hx hb dX2_with_10 rfl (lv_at hl 0 rfl) ?_
      refine lv_aload_n hx hb dX2_with_11 rfl (lv_at hl 2 rfl) ?_
      refine va_alen hx hb hK hP 0 2 rfl rfl (v := nI n) rfl dX2_with_12 ?_
      refine lv_icmp_ge (tgt := 28) hx hb dX2_with_13 (by decide) (fun c_13 => ?_) (fun c_13 => ?_)
      · have hin : i = n := by
          have := (nI_leI (a := n) (b := i) (by omega) (by omega)).mp c_13
          omega
        subst hin
        refine lv_aload_n hx hb dX2_with_28 rfl (lv_at hl 1 rfl) ?_
        refine lv_aload_n hx hb dX2_with_29 rfl (lv_at hl 2 rfl) ?_
        refine va_alen hx hb hK hP 0 2 rfl rfl (v := nI i) rfl dX2_with_30 ?_
        refine lv_aload_n hx hb dX2_with_31 rfl (lv_at hl 3 rfl) ?_
        refine x_ast hx hb (va_AM.use hE.1.2) hK hP hD hS (i + 2) 2 (1 + i) 0 wI_q rfl wI_v rfl i rfl (by omega) (by omega) dX2_with_32 (fun H locs hP hD hS => ?_)
        rw [wI_set] at hP hD
        obtain ⟨hP, hD⟩ := kb_rowq hP hD wI_q (fun j hj => upto_e r i v hj)
        rw [wI_set] at hP hD
        refine lv_aload_n hx hb dX2_with_33 rfl (lv_at hl 1 rfl) ?_
        refine W.wide (k := 1) (n := 17) (Nat.le_of_ble_eq_true rfl) (by omega) ?_
        subst hQ
        exact ya x hx hb hr (Or.inr ⟨_, rfl⟩) hlocks hK hP hD hS dX2_with_34 rfl rfl
      · have hlt : i < n := Nat.not_le.mp (fun z => c_13 ((nI_leI (a := n) (b := i) (by omega) (by omega)).mpr z))
        refine lv_aload_n hx hb dX2_with_16 rfl (lv_at hl 1 rfl) ?_
        refine lv_iload_n hx hb dX2_with_17 rfl (lv_at hl 0 rfl) ?_
        refine lv_aload_n hx hb dX2_with_18 rfl (lv_at hl 2 rfl) ?_
        refine lv_iload_n hx hb dX2_with_19 rfl (lv_at hl 0 rfl) ?_
        refine x_ald hx hb hK hP 0 2 wI_0 rfl i rfl hlt (by omega) dX2_with_20 ?_
        refine x_ast hx hb (va_AM.use hE.1.2) hK hP hD hS (n + 2) 2 (1 + i) 0 wI_q rfl (wI_r hlt) rfl i rfl (by omega) (by omega) dX2_with_21 (fun H locs hP hD hS => ?_)
        rw [wI_set, upto_s] at hP hD
        refine lv_iinc (v := nI (i + 1)) (lv' := [(3, .int (nI (i + 1))), (2, .ref x), (0, .ref fa), (1, .ref v)]) hx hb dX2_with_22 hl (k := 0) rfl (nI_add i 1) (by decide) rfl (fun ls hl => ?_)
        refine lv_goto (tgt := 10) hx hb dX2_with_25 (by decide) ?_
        exact ih (i + 1) (by omega) (by omega) _ _ _ hP hD hS hl
  exact L10 (n + 1) 0 (by omega) (by omega) _ _ _ hP hD hS hl
/-- a Sim that was made just now -/
abbrev nS (sm : Nat) : va_W := [(sm, .inr (2, [.null, .null, .int 0, .int 0, .int 0]))]
theorem b_X2_init : Cond.instanceMethod yX2_init ∈ LW ∧ Cond.initialized yX2_init.cls ∈ LW ∧ Cond.code yX2_init cX2_init 1 none ∈ LW := ⟨q428, q11, q429⟩
abbrev rmX2_init : Room := { frames := 1, cells := 2, slots := 0, locals := 60 }
set_option maxHeartbeats 4000000 in
set_option maxRecDepth 100000 in
theorem c_X2_init (l : Launch) (D : va_G) (cI cZ cL : ClassId) (sm : Nat) : MY (ι := SA) none l yX2_init cX2_init 1 none rmX2_init D (tZ cI cZ cL) [.ref sm] (nS sm) (fun q => sC cI cL sm q S0 0 0) (fun _ => none) := by
  refine MY.of (by decide) (Nat.le_of_ble_eq_true rfl) ?_
  intro p e s m args below meth c A ls Q hx hb hml hr hts hown hlocks hA hP hD hK hS hl hQ hE hnm
  have hown : s.vm.findClass RX2 = some m.cls := hown
  have hl : lv_has ls 1 [(0, .ref sm)] := hl
  refine lv_aload_n hx hb dX2_init_0 rfl (lv_at hl 0 rfl) ?_
  refine W.objInit hx hb hown (hts _ q430) (hts _ q26) (hts _ q27) rfl (by rw [hml]; exact hl.1) rfl dX2_init_1 (Nat.le_of_ble_eq_true rfl) (Nat.le_of_ble_eq_true rfl) ?_
  refine W.eq (g2 := F0 m 4 ls []) rfl ?_
  refine lv_aload_n hx hb dX2_init_4 rfl (lv_at hl 0 rfl) ?_
  refine lv_iconst (v := 0) hx hb dX2_init_5 (by decide) ?_
  refine x_anew hx hb hown (hts _ q431) (va_AM.use hE.1.2) hK hP hD hS hA 2 rfl (N' := 0) (by decide) (by decide) (by decide) (Nat.le_of_ble_eq_true rfl) (Nat.le_of_ble_eq_true rfl) dX2_init_6 (fun f H hP hD hS => ?_)
  have hP : va_P D vwCl ([(sm, .inr (2, [.null, .null, .int 0, .int 0, .int 0]))] ++ qI cL f 0 (fun _ => none)) H := hP
  have hD : va_D A ([(sm, .inr (2, [.null, .null, .int 0, .int 0, .int 0]))] ++ qI cL f 0 (fun _ => none)) := hD
  refine va_put (C := RX2) (T := TX2) (N := 5) (v := .ref f) (ty := .array (.array .int)) hx hb hts in_wsX20 tyX2 tyX2_ok nmX2 hown hK hP hD hS 0 rfl rfl 0 (by decide) (hts _ q433) (fun _ h9 => h9) rfl (by decide +kernel) rfl rfl (Nat.le_of_ble_eq_true rfl) dX2_init_9 (fun H locs hP hD hS => ?_)
  have hP : va_P D vwCl ([(sm, .inr (2, [.ref f, .null, .int 0, .int 0, .int 0]))] ++ qI cL f 0 (fun _ => none)) H := hP
  have hD : va_D A ([(sm, .inr (2, [.ref f, .null, .int 0, .int 0, .int 0]))] ++ qI cL f 0 (fun _ => none)) := hD
  refine lv_aload_n hx hb dX2_init_12 rfl (lv_at hl 0 rfl) ?_
  refine lv_iconst (v := 0) hx hb dX2_init_13 (by decide) ?_
  refine x_anew hx hb hown (hts _ q431) (va_AM.use hE.1.2) hK hP hD hS hA 2 rfl (N' := 0) (by decide) (by decide) (by decide) (Nat.le_of_ble_eq_true rfl) (Nat.le_of_ble_eq_true rfl) dX2_init_14 (fun d H hP hD hS => ?_)
  have hP : va_P D vwCl ([(sm, .inr (2, [.ref f, .null, .int 0, .int 0, .int 0]))] ++ (qI cL f 0 (fun _ => none) ++ qI cL d 0 (fun _ => none))) H := hP
  have hD : va_D A ([(sm, .inr (2, [.ref f, .null, .int 0, .int 0, .int 0]))] ++ (qI cL f 0 (fun _ => none) ++ qI cL d 0 (fun _ => none))) := hD
  refine va_put (C := RX2) (T := TX2) (N := 5) (v := .ref d) (ty := .array (.array .int)) hx hb hts in_wsX20 tyX2 tyX2_ok nmX2 hown hK hP hD hS 0 rfl rfl 1 (by decide) (hts _ q435) (fun _ h9 => h9) rfl (by decide +kernel) rfl rfl (Nat.le_of_ble_eq_true rfl) dX2_init_17 (fun H locs hP hD hS => ?_)
  have hP : va_P D vwCl ([(sm, .inr (2, [.ref f, .ref d, .int 0, .int 0, .int 0]))] ++ (qI cL f 0 (fun _ => none) ++ qI cL d 0 (fun _ => none))) H := hP
  have hD : va_D A ([(sm, .inr (2, [.ref f, .ref d, .int 0, .int 0, .int 0]))] ++ (qI cL f 0 (fun _ => none) ++ qI cL d 0 (fun _ => none))) := hD
  obtain ⟨hP, hD⟩ := kb_rowq (k := 1) (g := fun i => some ((fun _ => 0 : Nat → Nat) i)) hP hD rfl (fun j hj => absurd hj (by omega))
  obtain ⟨hP, hD⟩ := kb_rowq (k := 2) (g := fun i => some ((fun _ => 0 : Nat → Nat) i)) hP hD rfl (fun j hj => absurd hj (by omega))
  subst hQ
  exact yv ((f, d), (fun _ => 0, fun _ => 0)) hx hb hr hlocks hK hP hD hS dX2_init_20 rfl rfl
section KGR
variable {p : Program} {l : Launch} {e : Env} {R : Room} {s : State} {m : MethodId} {args : Array Value} {below : List Frame} {meth : Method} {c : Code} {H : Heap} {locs : List Loc} {cells slots : Nat} {Q : State → Prop}
variable {D : va_G} {A : Nat → Prop} {pc nL : Nat} {ls : Array Slot} {rest : List Value} {cc : ByteArray} {cI cL : ClassId}

set_option maxHeartbeats 4000000 in
/-- 'sim.fields = with(sim.fields, row)' -/
theorem s_growF (cZ : ClassId) {own : String} {i1 i2 : Nat} (hx : p.tables.exec = Jvm.exec) (hb : c.code = cc) (hml : c.maxLocals = nL) (hown : s.vm.findClass own = some m.cls) (hts : ∀ w ∈ LW, w.before args s = true) (hK : va_K D vwCl (tZ cI cZ cL) s) (hA : ∀ q, s.heap.size ≤ q → A q) (hE : EX A s s.heap) (hw1 : Cond.methodLink own i1 yX2_with ∈ LW) (hw2 : Cond.fieldLink own i2 (TX2 0).1 (TX2 0).2.1 (TX2 0).2.2.1 ∈ LW)
    {w0 w2 ws : va_W} {sm t : Nat} {q : SA} {σ τ : Sg} {n k : Nat} {f : Nat → Int32} (hsp : ws = [(t, .inl (cI, 5, .inl f))] ++ (w0 ++ (sC cI cL sm q σ n k ++ w2))) (hP : va_P D vwCl ws H) (hD : va_D A ws) (hS : va_S A s.heap H locs) (h16 : n ≤ 16) (hf : f = fX τ n) (h1 : ∀ j, j < n → fX σ j = fX τ j) (h2 : ∀ j, j < k → dX σ j = dX τ j) (e2 : σ 11 2 = τ 11 2) (e4 : σ 11 4 = τ 11 4) (e3 : σ 11 3 = τ 11 3)
    (hls : ls.size = nL) (hR : 1 ≤ R.frames ∧ 8 + (4 + 11) + 0 ≤ R.locals) (hroom : (rest.map fun v => v.category).sum ≤ 7) (d1 : decode cc pc = .ok (.invokestatic i1, 3)) (d2 : decode cc (pc + 3) = .ok (.putfield i2, 3)) (hf9 : cells + 1 ≤ R.cells ∧ slots + 17 ≤ R.slots)
    (kk : ∀ (x : Nat) (H1 : Heap) (locs1 : List Loc), va_P D vwCl (w0 ++ (sC cI cL sm ((x, q.1.2), (va_up q.2.1 n t, q.2.2)) τ (n + 1) k ++ w2)) H1 → va_D A (w0 ++ (sC cI cL sm ((x, q.1.2), (va_up q.2.1 n t, q.2.2)) τ (n + 1) k ++ w2)) → va_S A s.heap H1 locs1 → W p l e R s m args below meth c H1 locs1 (cells + 1) (slots + 17) Q (F0 m (pc + 3 + 3) ls rest)) :
    W p l e R s m args below meth c H locs cells slots Q (F0 m pc ls (.ref t :: .ref q.1.1 :: .ref sm :: rest)) := by
  subst hsp
  obtain ⟨hP, hD⟩ := p_perm (b := ([(sm, .inr (2, [.ref q.1.1, .ref q.1.2, .int (σ 11 2), .int (σ 11 4), .int (σ 11 3)]))] ++ (w0 ++ (w2 ++ ([(q.1.2, .inl (cL, k, rfs q.2.2))] ++ (rW cI 6 q.2.2 (dX σ) k))))) ++ (wI cI cL q.1.1 n q.2.1 5 (fX σ) t f ++ [])) (pm (fun i y => by
    unfold sC sH wI
    simp only [show ∀ (u v z : Nat × va_E), [u, v, z] = [u] ++ ([v] ++ [z]) from fun _ _ _ => rfl, List.count_append, List.append_nil]
    omega)) hP hD
  refine MY.callS (As := [.ref q.1.1, .ref t]) (rest := .ref sm :: rest) (w0 := [(sm, .inr (2, [.ref q.1.1, .ref q.1.2, .int (σ 11 2), .int (σ 11 4), .int (σ 11 3)]))] ++ (w0 ++ (w2 ++ ([(q.1.2, .inl (cL, k, rfs q.2.2))] ++ (rW cI 6 q.2.2 (dX σ) k))))) (w2 := []) (wB := fun x => ([(sm, .inr (2, [.ref q.1.1, .ref q.1.2, .int (σ 11 2), .int (σ 11 4), .int (σ 11 3)]))] ++ (w0 ++ (w2 ++ ([(q.1.2, .inl (cL, k, rfs q.2.2))] ++ (rW cI 6 q.2.2 (dX σ) k))))) ++ ((wI cI cL q.1.1 n q.2.1 5 (fX σ) t f ++ qI cL x (n + 1) (fun j => some (va_up q.2.1 n t j))) ++ [])) (c_X2_with l D cI cZ cL h16 q.1.1 q.2.1 (fX σ) t f) ⟨hx, hb, hml, hown, hts⟩ hw1 b_X2_with (n := 2) (by decide +kernel) hR hK hP hD hS hA (EY.non hE) rfl (fun _ => rfl) rfl hls rfl (by show 1 + (rest.map fun v => v.category).sum ≤ 8; omega) d1 hf9 (fun x H locs hP hD hS => ?_)
  refine va_put (C := RX2) (T := TX2) (N := 5) (v := .ref x) (ty := .array (.array .int)) hx hb hts in_wsX20 tyX2 tyX2_ok nmX2 hown hK hP hD hS 0 rfl rfl 0 (by decide) (hts _ hw2) (fun _ h9 => h9) rfl (by decide +kernel) rfl rfl (Nat.le_of_ble_eq_true rfl) d2 (fun H locs hP hD hS => ?_)
  have hP : va_P D vwCl (([(sm, .inr (2, [.ref x, .ref q.1.2, .int (σ 11 2), .int (σ 11 4), .int (σ 11 3)]))] ++ (w0 ++ (w2 ++ ([(q.1.2, .inl (cL, k, rfs q.2.2))] ++ (rW cI 6 q.2.2 (dX σ) k))))) ++ ((wI cI cL q.1.1 n q.2.1 5 (fX σ) t f ++ qI cL x (n + 1) (fun j => some (va_up q.2.1 n t j))) ++ [])) H := hP
  have hD : va_D A (([(sm, .inr (2, [.ref x, .ref q.1.2, .int (σ 11 2), .int (σ 11 4), .int (σ 11 3)]))] ++ (w0 ++ (w2 ++ ([(q.1.2, .inl (cL, k, rfs q.2.2))] ++ (rW cI 6 q.2.2 (dX σ) k))))) ++ ((wI cI cL q.1.1 n q.2.1 5 (fX σ) t f ++ qI cL x (n + 1) (fun j => some (va_up q.2.1 n t j))) ++ [])) := hD
  have e9 : sC cI cL sm ((x, q.1.2), (va_up q.2.1 n t, q.2.2)) τ (n + 1) k = [(sm, .inr (2, [.ref x, .ref q.1.2, .int (σ 11 2), .int (σ 11 4), .int (σ 11 3)]))] ++ (qI cL x (n + 1) (fun j => some (va_up q.2.1 n t j)) ++ ([(q.1.2, .inl (cL, k, rfs q.2.2))] ++ ((rW cI 5 q.2.1 (fX σ) n ++ [(t, .inl (cI, 5, .inl f))]) ++ rW cI 6 q.2.2 (dX σ) k))) := by
    unfold sC sH
    rw [rW_succ]
    dsimp only
    rw [← rW_congr cI 5 (r := q.2.1) (r' := va_up q.2.1 n t) (fun j hj => (va_up_ne q.2.1 t (Nat.ne_of_lt hj)).symm) h1, ← rW_congr cI 6 (fun _ _ => rfl) h2, va_up_self, ← hf]
    rw [← e2, ← e3, ← e4]
    simp only [List.cons_append, List.nil_append, List.append_assoc]
  obtain ⟨hP, hD⟩ := p_drop (b := w0 ++ (sC cI cL sm ((x, q.1.2), (va_up q.2.1 n t, q.2.2)) τ (n + 1) k ++ w2)) [(q.1.1, .inl (cL, n, rfs q.2.1))] (pm (fun i y => by
    rw [e9]
    unfold wI
    simp only [List.count_append, List.append_nil]
    omega)) hP hD
  exact kk x H locs hP hD hS

set_option maxHeartbeats 4000000 in
/-- 'sim.drains = with(sim.drains, row)' -/
theorem s_growD (cZ : ClassId) {own : String} {i1 i2 : Nat} (hx : p.tables.exec = Jvm.exec) (hb : c.code = cc) (hml : c.maxLocals = nL) (hown : s.vm.findClass own = some m.cls) (hts : ∀ w ∈ LW, w.before args s = true) (hK : va_K D vwCl (tZ cI cZ cL) s) (hA : ∀ q, s.heap.size ≤ q → A q) (hE : EX A s s.heap) (hw1 : Cond.methodLink own i1 yX2_with ∈ LW) (hw2 : Cond.fieldLink own i2 (TX2 1).1 (TX2 1).2.1 (TX2 1).2.2.1 ∈ LW)
    {w0 w2 ws : va_W} {sm t : Nat} {q : SA} {σ τ : Sg} {n k : Nat} {f : Nat → Int32} (hsp : ws = [(t, .inl (cI, 6, .inl f))] ++ (w0 ++ (sC cI cL sm q σ n k ++ w2))) (hP : va_P D vwCl ws H) (hD : va_D A ws) (hS : va_S A s.heap H locs) (h16 : k ≤ 16) (hf : f = dX τ k) (h1 : ∀ j, j < k → dX σ j = dX τ j) (h2 : ∀ j, j < n → fX σ j = fX τ j) (e2 : σ 11 2 = τ 11 2) (e4 : σ 11 4 = τ 11 4) (e3 : σ 11 3 = τ 11 3)
    (hls : ls.size = nL) (hR : 1 ≤ R.frames ∧ 8 + (4 + 11) + 0 ≤ R.locals) (hroom : (rest.map fun v => v.category).sum ≤ 7) (d1 : decode cc pc = .ok (.invokestatic i1, 3)) (d2 : decode cc (pc + 3) = .ok (.putfield i2, 3)) (hf9 : cells + 1 ≤ R.cells ∧ slots + 17 ≤ R.slots)
    (kk : ∀ (x : Nat) (H1 : Heap) (locs1 : List Loc), va_P D vwCl (w0 ++ (sC cI cL sm ((q.1.1, x), (q.2.1, va_up q.2.2 k t)) τ n (k + 1) ++ w2)) H1 → va_D A (w0 ++ (sC cI cL sm ((q.1.1, x), (q.2.1, va_up q.2.2 k t)) τ n (k + 1) ++ w2)) → va_S A s.heap H1 locs1 → W p l e R s m args below meth c H1 locs1 (cells + 1) (slots + 17) Q (F0 m (pc + 3 + 3) ls rest)) :
    W p l e R s m args below meth c H locs cells slots Q (F0 m pc ls (.ref t :: .ref q.1.2 :: .ref sm :: rest)) := by
  subst hsp
  obtain ⟨hP, hD⟩ := p_perm (b := ([(sm, .inr (2, [.ref q.1.1, .ref q.1.2, .int (σ 11 2), .int (σ 11 4), .int (σ 11 3)]))] ++ (w0 ++ (w2 ++ ([(q.1.1, .inl (cL, n, rfs q.2.1))] ++ (rW cI 5 q.2.1 (fX σ) n))))) ++ (wI cI cL q.1.2 k q.2.2 6 (dX σ) t f ++ [])) (pm (fun i y => by
    unfold sC sH wI
    simp only [show ∀ (u v z : Nat × va_E), [u, v, z] = [u] ++ ([v] ++ [z]) from fun _ _ _ => rfl, List.count_append, List.append_nil]
    omega)) hP hD
  refine MY.callS (As := [.ref q.1.2, .ref t]) (rest := .ref sm :: rest) (w0 := [(sm, .inr (2, [.ref q.1.1, .ref q.1.2, .int (σ 11 2), .int (σ 11 4), .int (σ 11 3)]))] ++ (w0 ++ (w2 ++ ([(q.1.1, .inl (cL, n, rfs q.2.1))] ++ (rW cI 5 q.2.1 (fX σ) n))))) (w2 := []) (wB := fun x => ([(sm, .inr (2, [.ref q.1.1, .ref q.1.2, .int (σ 11 2), .int (σ 11 4), .int (σ 11 3)]))] ++ (w0 ++ (w2 ++ ([(q.1.1, .inl (cL, n, rfs q.2.1))] ++ (rW cI 5 q.2.1 (fX σ) n))))) ++ ((wI cI cL q.1.2 k q.2.2 6 (dX σ) t f ++ qI cL x (k + 1) (fun j => some (va_up q.2.2 k t j))) ++ [])) (c_X2_with l D cI cZ cL h16 q.1.2 q.2.2 (dX σ) t f) ⟨hx, hb, hml, hown, hts⟩ hw1 b_X2_with (n := 2) (by decide +kernel) hR hK hP hD hS hA (EY.non hE) rfl (fun _ => rfl) rfl hls rfl (by show 1 + (rest.map fun v => v.category).sum ≤ 8; omega) d1 hf9 (fun x H locs hP hD hS => ?_)
  refine va_put (C := RX2) (T := TX2) (N := 5) (v := .ref x) (ty := .array (.array .int)) hx hb hts in_wsX20 tyX2 tyX2_ok nmX2 hown hK hP hD hS 0 rfl rfl 1 (by decide) (hts _ hw2) (fun _ h9 => h9) rfl (by decide +kernel) rfl rfl (Nat.le_of_ble_eq_true rfl) d2 (fun H locs hP hD hS => ?_)
  have hP : va_P D vwCl (([(sm, .inr (2, [.ref q.1.1, .ref x, .int (σ 11 2), .int (σ 11 4), .int (σ 11 3)]))] ++ (w0 ++ (w2 ++ ([(q.1.1, .inl (cL, n, rfs q.2.1))] ++ (rW cI 5 q.2.1 (fX σ) n))))) ++ ((wI cI cL q.1.2 k q.2.2 6 (dX σ) t f ++ qI cL x (k + 1) (fun j => some (va_up q.2.2 k t j))) ++ [])) H := hP
  have hD : va_D A (([(sm, .inr (2, [.ref q.1.1, .ref x, .int (σ 11 2), .int (σ 11 4), .int (σ 11 3)]))] ++ (w0 ++ (w2 ++ ([(q.1.1, .inl (cL, n, rfs q.2.1))] ++ (rW cI 5 q.2.1 (fX σ) n))))) ++ ((wI cI cL q.1.2 k q.2.2 6 (dX σ) t f ++ qI cL x (k + 1) (fun j => some (va_up q.2.2 k t j))) ++ [])) := hD
  have e9 : sC cI cL sm ((q.1.1, x), (q.2.1, va_up q.2.2 k t)) τ n (k + 1) = [(sm, .inr (2, [.ref q.1.1, .ref x, .int (σ 11 2), .int (σ 11 4), .int (σ 11 3)]))] ++ ([(q.1.1, .inl (cL, n, rfs q.2.1))] ++ (qI cL x (k + 1) (fun j => some (va_up q.2.2 k t j)) ++ (rW cI 5 q.2.1 (fX σ) n ++ (rW cI 6 q.2.2 (dX σ) k ++ [(t, .inl (cI, 6, .inl f))])))) := by
    unfold sC sH
    rw [rW_succ]
    dsimp only
    rw [← rW_congr cI 6 (r := q.2.2) (r' := va_up q.2.2 k t) (fun j hj => (va_up_ne q.2.2 t (Nat.ne_of_lt hj)).symm) h1, ← rW_congr cI 5 (fun _ _ => rfl) h2, va_up_self, ← hf]
    rw [← e2, ← e3, ← e4]
    simp only [List.cons_append, List.nil_append, List.append_assoc]
  obtain ⟨hP, hD⟩ := p_drop (b := w0 ++ (sC cI cL sm ((q.1.1, x), (q.2.1, va_up q.2.2 k t)) τ n (k + 1) ++ w2)) [(q.1.2, .inl (cL, k, rfs q.2.2))] (pm (fun i y => by
    rw [e9]
    unfold wI
    simp only [List.count_append, List.append_nil]
    omega)) hP hD
  exact kk x H locs hP hD hS
end KGR
