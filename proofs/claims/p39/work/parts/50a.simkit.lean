-- OWN KIT S: the law's second marsh: an object, two arrays of rows, the rows
abbrev SA : Type := (Nat × Nat) × ((Nat → Nat) × (Nat → Nat))
def fX (σ : Sg) (i : Nat) : Nat → Int32 := fun j => match j with
  | 0 => σ 0 i
  | 1 => σ 1 i
  | 2 => σ 2 i
  | 3 => σ 3 i
  | 4 => σ 4 i
  | _ => 0
def dX (σ : Sg) (d : Nat) : Nat → Int32 := fun j => match j with
  | 0 => σ 5 d
  | 1 => σ 6 d
  | 2 => σ 7 d
  | 3 => σ 9 d
  | 4 => σ 10 d
  | 5 => σ 8 d
  | _ => 0
def rW (cI : ClassId) (m : Nat) (r : Nat → Nat) (g : Nat → Nat → Int32) (n : Nat) : va_W := (List.range n).map (fun i => (r i, .inl (cI, m, .inl (g i))))
abbrev rfs (r : Nat → Nat) : (Nat → Int32) ⊕ (Nat → Int64) ⊕ (Nat → UInt32) ⊕ (Nat → UInt64) ⊕ (Nat → Option Nat) := .inr (.inr (.inr (.inr (fun i => some (r i)))))
def sH (cN : ClassId) (sm : Nat) (q : SA) (σ : Sg) (n k : Nat) : va_W :=
  [(sm, .inr (2, [.ref q.1.1, .ref q.1.2, .int (σ 11 2), .int (σ 11 4), .int (σ 11 3)])), (q.1.1, .inl (cN, n, rfs q.2.1)), (q.1.2, .inl (cN, k, rfs q.2.2))]
/-- the cells of a Sim -/
def sC (cI cN : ClassId) (sm : Nat) (q : SA) (σ : Sg) (n k : Nat) : va_W := sH cN sm q σ n k ++ (rW cI 5 q.2.1 (fX σ) n ++ rW cI 6 q.2.2 (dX σ) k)
theorem rW_len (cI : ClassId) (m : Nat) (r : Nat → Nat) (g : Nat → Nat → Int32) (n : Nat) : (rW cI m r g n).length = n := by simp [rW]
theorem rW_at (cI : ClassId) (m : Nat) (r : Nat → Nat) (g : Nat → Nat → Int32) {n i : Nat} (h : i < n) : (rW cI m r g n)[i]? = some (r i, .inl (cI, m, .inl (g i))) := by
  simp [rW, h]
theorem mid_at {w0 c w2 : va_W} {t : Nat} (h : t < c.length) : (w0 ++ (c ++ w2))[w0.length + t]? = c[t]? := by
  rw [List.getElem?_append_right (by omega), show w0.length + t - w0.length = t by omega, List.getElem?_append_left h]
theorem mid_set {w0 c w2 : va_W} {t : Nat} (h : t < c.length) (v : Nat × va_E) : (w0 ++ (c ++ w2)).set (w0.length + t) v = w0 ++ (c.set t v ++ w2) := by
  rw [List.set_append_right _ _ (by omega), show w0.length + t - w0.length = t by omega, List.set_append_left _ _ h]
theorem rW_set (cI : ClassId) (m : Nat) (r : Nat → Nat) {g g' : Nat → Nat → Int32} {n i : Nat} {f : Nat → Int32} (hf : f = g' i) (hg : ∀ j, ¬ j = i → g j = g' j) : (rW cI m r g n).set i (r i, .inl (cI, m, .inl f)) = rW cI m r g' n := by
  apply List.ext_getElem?
  intro j
  by_cases e : i = j
  · subst e
    by_cases h : i < n
    · rw [List.getElem?_set_self (by rw [rW_len]; exact h), rW_at _ _ _ _ h, hf]
    · rw [List.getElem?_eq_none (by rw [List.length_set, rW_len]; omega), List.getElem?_eq_none (by rw [rW_len]; omega)]
  · rw [List.getElem?_set_ne e]
    by_cases h : j < n
    · rw [rW_at _ _ _ _ h, rW_at _ _ _ _ h, hg j (fun z => e z.symm)]
    · rw [List.getElem?_eq_none (by rw [rW_len]; omega), List.getElem?_eq_none (by rw [rW_len]; omega)]
theorem rW_congr (cI : ClassId) (m : Nat) {r r' : Nat → Nat} {g g' : Nat → Nat → Int32} {n : Nat} (hr : ∀ j, j < n → r j = r' j) (hg : ∀ j, j < n → g j = g' j) : rW cI m r g n = rW cI m r' g' n := by
  apply List.ext_getElem?
  intro j
  by_cases h : j < n
  · rw [rW_at _ _ _ _ h, rW_at _ _ _ _ h, hr j h, hg j h]
  · rw [List.getElem?_eq_none (by rw [rW_len]; omega), List.getElem?_eq_none (by rw [rW_len]; omega)]
theorem rW_succ (cI : ClassId) (m : Nat) (r : Nat → Nat) (g : Nat → Nat → Int32) (n : Nat) : rW cI m r g (n + 1) = rW cI m r g n ++ [(r n, .inl (cI, m, .inl (g n)))] := by
  unfold rW
  rw [List.range_succ, List.map_append]
  rfl
theorem sC_len (cI cN : ClassId) (sm : Nat) (q : SA) (σ : Sg) (n k : Nat) : (sC cI cN sm q σ n k).length = 3 + (n + k) := by
  unfold sC
  rw [List.length_append, List.length_append, rW_len, rW_len]
  rfl
section SK
variable {cI cN : ClassId} {sm : Nat} {q : SA} {σ : Sg} {n k : Nat} {w0 w2 ws : va_W}
theorem sC_0 (hsp : ws = w0 ++ (sC cI cN sm q σ n k ++ w2)) : ws[w0.length + 0]? = some (sm, .inr (2, [.ref q.1.1, .ref q.1.2, .int (σ 11 2), .int (σ 11 4), .int (σ 11 3)])) := by
  rw [hsp, mid_at (by rw [sC_len]; omega)]; rfl
theorem sC_1 (hsp : ws = w0 ++ (sC cI cN sm q σ n k ++ w2)) : ws[w0.length + 1]? = some (q.1.1, .inl (cN, n, rfs q.2.1)) := by
  rw [hsp, mid_at (by rw [sC_len]; omega)]; rfl
theorem sC_2 (hsp : ws = w0 ++ (sC cI cN sm q σ n k ++ w2)) : ws[w0.length + 2]? = some (q.1.2, .inl (cN, k, rfs q.2.2)) := by
  rw [hsp, mid_at (by rw [sC_len]; omega)]; rfl
theorem sC_f (hsp : ws = w0 ++ (sC cI cN sm q σ n k ++ w2)) {i : Nat} (h : i < n) : ws[w0.length + (3 + i)]? = some (q.2.1 i, .inl (cI, 5, .inl (fX σ i))) := by
  rw [hsp, mid_at (by rw [sC_len]; omega)]
  unfold sC
  rw [List.getElem?_append_right (by show 3 ≤ 3 + i; omega), show 3 + i - (sH cN sm q σ n k).length = i by show 3 + i - 3 = i; omega, List.getElem?_append_left (by rw [rW_len]; exact h)]
  exact rW_at _ _ _ _ h
theorem sC_d (hsp : ws = w0 ++ (sC cI cN sm q σ n k ++ w2)) {i : Nat} (h : i < k) : ws[w0.length + (3 + (n + i))]? = some (q.2.2 i, .inl (cI, 6, .inl (dX σ i))) := by
  rw [hsp, mid_at (by rw [sC_len]; omega)]
  unfold sC
  rw [List.getElem?_append_right (by show 3 ≤ 3 + (n + i); omega), show 3 + (n + i) - (sH cN sm q σ n k).length = n + i by show 3 + (n + i) - 3 = n + i; omega, List.getElem?_append_right (by rw [rW_len]; omega), rW_len, show n + i - n = i by omega]
  exact rW_at _ _ _ _ h
theorem sC_sf (hsp : ws = w0 ++ (sC cI cN sm q σ n k ++ w2)) {τ : Sg} {i : Nat} {f : Nat → Int32} (h : i < n) (hf : f = fX τ i) (hg : ∀ j, ¬ j = i → fX σ j = fX τ j) (hd : ∀ j, dX σ j = dX τ j) (h2 : σ 11 2 = τ 11 2) (h4 : σ 11 4 = τ 11 4) (h3 : σ 11 3 = τ 11 3) : ws.set (w0.length + (3 + i)) (q.2.1 i, .inl (cI, 5, .inl f)) = w0 ++ (sC cI cN sm q τ n k ++ w2) := by
  rw [hsp, mid_set (by rw [sC_len]; omega)]
  congr 2
  unfold sC
  rw [List.set_append_right _ _ (by show 3 ≤ 3 + i; omega), show 3 + i - (sH cN sm q σ n k).length = i by show 3 + i - 3 = i; omega, List.set_append_left _ _ (by rw [rW_len]; exact h), rW_set cI 5 q.2.1 hf hg, rW_congr cI 6 (fun _ _ => rfl) (fun j _ => hd j)]
  unfold sH
  rw [h2, h3, h4]
theorem sC_sd (hsp : ws = w0 ++ (sC cI cN sm q σ n k ++ w2)) {τ : Sg} {i : Nat} {f : Nat → Int32} (h : i < k) (hf : f = dX τ i) (hg : ∀ j, ¬ j = i → dX σ j = dX τ j) (hd : ∀ j, fX σ j = fX τ j) (h2 : σ 11 2 = τ 11 2) (h4 : σ 11 4 = τ 11 4) (h3 : σ 11 3 = τ 11 3) : ws.set (w0.length + (3 + (n + i))) (q.2.2 i, .inl (cI, 6, .inl f)) = w0 ++ (sC cI cN sm q τ n k ++ w2) := by
  rw [hsp, mid_set (by rw [sC_len]; omega)]
  congr 2
  unfold sC
  rw [List.set_append_right _ _ (by show 3 ≤ 3 + (n + i); omega), show 3 + (n + i) - (sH cN sm q σ n k).length = n + i by show 3 + (n + i) - 3 = n + i; omega, List.set_append_right _ _ (by rw [rW_len]; omega), rW_len, show n + i - n = i by omega, rW_set cI 6 q.2.2 hf hg, rW_congr cI 5 (fun _ _ => rfl) (fun j _ => hd j)]
  unfold sH
  rw [h2, h3, h4]
theorem sC_so (hsp : ws = w0 ++ (sC cI cN sm q σ n k ++ w2)) {τ : Sg} {fs : List Value} (hf : fs = [.ref q.1.1, .ref q.1.2, .int (τ 11 2), .int (τ 11 4), .int (τ 11 3)]) (h1 : ∀ j, fX σ j = fX τ j) (hd : ∀ j, dX σ j = dX τ j) : ws.set (w0.length + 0) (sm, .inr (2, fs)) = w0 ++ (sC cI cN sm q τ n k ++ w2) := by
  rw [hsp, mid_set (by rw [sC_len]; omega), hf]
  congr 2
  unfold sC
  rw [rW_congr cI 6 (fun _ _ => rfl) (fun j _ => hd j), rW_congr cI 5 (fun _ _ => rfl) (fun j _ => h1 j)]
  rfl
theorem sC_congr {τ : Sg} (h1 : ∀ j, j < n → fX σ j = fX τ j) (hd : ∀ j, j < k → dX σ j = dX τ j) (h2 : σ 11 2 = τ 11 2) (h4 : σ 11 4 = τ 11 4) (h3 : σ 11 3 = τ 11 3) : sC cI cN sm q σ n k = sC cI cN sm q τ n k := by
  unfold sC sH
  rw [rW_congr cI 6 (fun _ _ => rfl) hd, rW_congr cI 5 (fun _ _ => rfl) h1, h2, h3, h4]
end SK
/-- rows of the state, and places of the Sim's rows -/
theorem fX_su (σ : Sg) {r : Nat} (hr : r < 5) (i : Nat) (x : Int32) : upd (fX σ i) r x = fX (su σ r i x) i := by
  funext j
  match r, hr with
  | 0, _ => match j with
    | 0 => rw [pk_us]; exact (su_in σ 0 i x).symm
    | 1 => rfl
    | 2 => rfl
    | 3 => rfl
    | 4 => rfl
    | j + 5 => rfl
  | 1, _ => match j with
    | 0 => rfl
    | 1 => rw [pk_us]; exact (su_in σ 1 i x).symm
    | 2 => rfl
    | 3 => rfl
    | 4 => rfl
    | j + 5 => rfl
  | 2, _ => match j with
    | 0 => rfl
    | 1 => rfl
    | 2 => rw [pk_us]; exact (su_in σ 2 i x).symm
    | 3 => rfl
    | 4 => rfl
    | j + 5 => rfl
  | 3, _ => match j with
    | 0 => rfl
    | 1 => rfl
    | 2 => rfl
    | 3 => rw [pk_us]; exact (su_in σ 3 i x).symm
    | 4 => rfl
    | j + 5 => rfl
  | 4, _ => match j with
    | 0 => rfl
    | 1 => rfl
    | 2 => rfl
    | 3 => rfl
    | 4 => rw [pk_us]; exact (su_in σ 4 i x).symm
    | j + 5 => rfl
theorem fX_ne (σ : Sg) (r i : Nat) (x : Int32) {j : Nat} (h : ¬ j = i) : fX σ j = fX (su σ r i x) j := by
  have e : ∀ t, σ t j = su σ r i x t j := fun t => by
    by_cases z : t = r
    · subst z; exact (su_out σ t x h).symm
    · rw [su_row σ i x z]
  funext t
  match t with
  | 0 => exact e 0
  | 1 => exact e 1
  | 2 => exact e 2
  | 3 => exact e 3
  | 4 => exact e 4
  | t + 5 => rfl
theorem fX_row (σ : Sg) {r : Nat} (hr : 5 ≤ r) (i : Nat) (x : Int32) (j : Nat) : fX σ j = fX (su σ r i x) j := by
  have e : ∀ t, t < 5 → σ t j = su σ r i x t j := fun t ht => by rw [su_row σ i x (by omega)]
  funext t
  match t with
  | 0 => exact e 0 (by decide)
  | 1 => exact e 1 (by decide)
  | 2 => exact e 2 (by decide)
  | 3 => exact e 3 (by decide)
  | 4 => exact e 4 (by decide)
  | t + 5 => rfl
theorem dX_row (σ : Sg) {r : Nat} (hr : r < 5) (i : Nat) (x : Int32) (j : Nat) : dX σ j = dX (su σ r i x) j := by
  have e : ∀ t, 5 ≤ t → σ t j = su σ r i x t j := fun t ht => by rw [su_row σ i x (by omega)]
  funext t
  match t with
  | 0 => exact e 5 (by decide)
  | 1 => exact e 6 (by decide)
  | 2 => exact e 7 (by decide)
  | 3 => exact e 9 (by decide)
  | 4 => exact e 10 (by decide)
  | 5 => exact e 8 (by decide)
  | t + 6 => rfl
theorem dX_ne (σ : Sg) (r i : Nat) (x : Int32) {j : Nat} (h : ¬ j = i) : dX σ j = dX (su σ r i x) j := by
  have e : ∀ t, σ t j = su σ r i x t j := fun t => by
    by_cases z : t = r
    · subst z; exact (su_out σ t x h).symm
    · rw [su_row σ i x z]
  funext t
  match t with
  | 0 => exact e 5
  | 1 => exact e 6
  | 2 => exact e 7
  | 3 => exact e 9
  | 4 => exact e 10
  | 5 => exact e 8
  | t + 6 => rfl
theorem dX_5 (σ : Sg) (i : Nat) (x : Int32) : upd (dX σ i) 5 x = dX (su σ 8 i x) i := by
  funext j
  match j with
  | 0 => rfl
  | 1 => rfl
  | 2 => rfl
  | 3 => rfl
  | 4 => rfl
  | 5 => rw [pk_us]; exact (su_in σ 8 i x).symm
  | j + 6 => rfl
theorem dX_4 (σ : Sg) (i : Nat) (x : Int32) : upd (dX σ i) 4 x = dX (su σ 10 i x) i := by
  funext j
  match j with
  | 0 => rfl
  | 1 => rfl
  | 2 => rfl
  | 3 => rfl
  | 4 => rw [pk_us]; exact (su_in σ 10 i x).symm
  | 5 => rfl
  | j + 6 => rfl
theorem su_11 (σ : Sg) {r : Nat} (hr : ¬ r = 11) (i : Nat) (x : Int32) (j : Nat) : σ 11 j = su σ r i x 11 j := by rw [su_row σ i x (fun z => hr z.symm)]
theorem fX_sc (σ : Sg) (i : Nat) (x : Int32) (j : Nat) : fX σ j = fX (sc σ i x) j := by
  funext t
  match t with
  | 0 => rfl
  | 1 => rfl
  | 2 => rfl
  | 3 => rfl
  | 4 => rfl
  | t + 5 => rfl
theorem dX_sc (σ : Sg) (i : Nat) (x : Int32) (j : Nat) : dX σ j = dX (sc σ i x) j := by
  funext t
  match t with
  | 0 => rfl
  | 1 => rfl
  | 2 => rfl
  | 3 => rfl
  | 4 => rfl
  | 5 => rfl
  | t + 6 => rfl
section SR
variable {p : Program} {l : Launch} {e : Env} {R : Room} {s : State} {m : MethodId} {args : Array Value} {below : List Frame} {meth : Method} {c : Code} {H H0 : Heap} {locs : List Loc} {cells slots : Nat} {Q : State → Prop}
variable {D : va_G} {cl : List vw_C} {tys : List (ClassId × FieldType)} {A : Nat → Prop} {pc : Nat} {ls : Array Slot} {rest : List Value} {cc : ByteArray} {ws w0 w2 : va_W} {a : Nat}
theorem x_ald (hx : p.tables.exec = Jvm.exec) (hb : c.code = cc) (hK : va_K D cl tys s) (hP : va_P D cl ws H) (q0 t0 : Nat) {cA : ClassId} {n : Nat} {r : Nat → Nat} (ha : ws[q0]? = some (a, .inl (cA, n, rfs r))) (ht : tys[t0]? = some (cA, .array .int)) (j : Nat) {i : Int32} (hi : i = nI j) (hj : j < n) (hn : n < 2 ^ 31) (hdg : decode cc pc = .ok (.aaload, 1))
    (kk : W p l e R s m args below meth c H locs cells slots Q (F0 m (pc + 1) ls (.ref (r j) :: rest))) : W p l e R s m args below meth c H locs cells slots Q (F0 m pc ls (.int i :: .ref a :: rest)) := by
  subst hi
  have hc : (nI j).toNatClampNeg = j := nI_clamp (by omega)
  have hin := vp_in_nI hj hn
  exact W.aald (v := .ref (r j)) (ty := .array .int) hx hb (hP q0 _ ha) ((hK.2 t0 _ ht).1 n (fun j => va_rf (some (r j)))) rfl (fun q => by cases q) (by show ¬ (_ ∨ (arrV _ _ _).slots.size ≤ _); rw [arrV_size]; exact hin) (by show (arrV _ _ _).slots[_]? = _; rw [hc, arrV_read _ _ hj]; rfl) rfl rfl hdg kk
theorem ra_mat {U : State} {c d : ClassId} (h1 : va_RA U c (.array .int)) (h2 : va_RA U d (.array .int)) : c = d := Option.some.inj (Eq.trans (Eq.symm h1) h2)
theorem x_ast (hx : p.tables.exec = Jvm.exec) (hb : c.code = cc) (harr : (Cond.arrayOver (.array .int)).before args s = true) (hK : va_K D cl tys s) (hP : va_P D cl ws H) (hD : va_D A ws) (hS : va_S A H0 H locs) (q0 t0 qk t1 : Nat) {cA cI : ClassId} {n v mm : Nat} {g : Nat → Int32} {f : Nat → Option Nat} (ha : ws[q0]? = some (a, .inl (cA, n, .inr (.inr (.inr (.inr f)))))) (ht : tys[t0]? = some (cA, .array .int)) (hv : ws[qk]? = some (v, .inl (cI, mm, .inl g))) (ht1 : tys[t1]? = some (cI, .int)) (j : Nat) {i : Int32} (hi : i = nI j) (hj : j < n) (hn : n < 2 ^ 31) (hdg : decode cc pc = .ok (.aastore, 1))
    (kk : ∀ (H1 : Heap) (locs1 : List Loc), va_P D cl (ws.set q0 (a, .inl (cA, n, .inr (.inr (.inr (.inr (va_up f j (some v)))))))) H1 → va_D A (ws.set q0 (a, .inl (cA, n, .inr (.inr (.inr (.inr (va_up f j (some v)))))))) → va_S A H0 H1 locs1 → W p l e R s m args below meth c H1 locs1 cells slots Q (F0 m (pc + 1) ls rest)) : W p l e R s m args below meth c H locs cells slots Q (F0 m pc ls (.ref v :: .int i :: .ref a :: rest)) := by
  subst hi
  have hc : (nI j).toNatClampNeg = j := nI_clamp (by omega)
  obtain ⟨comp, c9, k9, h1, -, h3, h4, h5⟩ := arrayOverA_spec harr
  have hc9 : cA = c9 := ra_mat (hK.2 t0 _ ht).2 h5
  subst hc9
  have hcI : cI = comp := Option.some.inj (Eq.trans (Eq.symm (va_nm_int (hK.2 t1 _ ht1).2)) h1)
  subst hcI
  obtain ⟨kc, hkc, -⟩ := Vm.findClass_spec h1
  refine W.aast hx hb (hP q0 _ ha) (fun q h => by cases h) (fun h => by cases h) h3 h4 rfl hkc ⟨fun z => (vp_in_nI hj hn) (Or.inl z), by show _ < (arrV _ _ _).slots.size; rw [arrV_size, hc]; exact hj⟩ (hP qk _ hv) (fun q h => by cases h) hkc (va_asg _ _) rfl rfl hdg fun H1 e z oq => ?_
  refine kk H1 _ (hP.set hD ha ?_ oq) (hD.set ha) (hS.put z oq (hD.2 q0 _ ha))
  show H1[a]? = some (vp_cell _ _)
  rw [e]
  rw [vp_cell_q, vp_cell_q, arrV_store, hc]
  congr 2
  funext q
  by_cases hq : q = j
  · subst hq
    simp [updV, va_up, va_rf]
  · simp [updV, va_up, hq]
theorem x_anew (hx : p.tables.exec = Jvm.exec) (hb : c.code = cc) {own : String} {index : Nat} (hown : s.vm.findClass own = some m.cls) (hclink : (Cond.classLink own index "[I").before args s = true) (hover : (Cond.arrayOver (.array .int)).before args s = true) (hK : va_K D cl tys s) (hP : va_P D cl ws H) (hD : va_D A ws) (hS : va_S A H0 H locs) (hA : ∀ q, H0.size ≤ q → A q) (t0 : Nat) {cA : ClassId} (ht : tys[t0]? = some (cA, .array .int))
    {n : Int32} {N' : Nat} (hn : ¬ n < 0) (hN : n.toNatClampNeg = N') (hbytes : N' * 4 ≤ 536870912) (hcells : cells + 1 ≤ R.cells) (hslots : slots + N' ≤ R.slots) (hdg : decode cc pc = .ok (.anewarray index, 3))
    (kk : ∀ (q : Nat) (H1 : Heap), va_P D cl (ws ++ [(q, .inl (cA, N', .inr (.inr (.inr (.inr (fun _ => none))))))]) H1 → va_D A (ws ++ [(q, .inl (cA, N', .inr (.inr (.inr (.inr (fun _ => none))))))]) → va_S A H0 H1 locs →
      W p l e R s m args below meth c H1 locs (cells + 1) (slots + N') Q (F0 m (pc + 3) ls (.ref q :: rest))) : W p l e R s m args below meth c H locs cells slots Q (F0 m pc ls (.int n :: rest)) := by
  subst hN
  refine W.anewA (t := .int) hx hb hown hclink hover rfl hdg rfl hn hbytes hcells hslots fun cB kA comp f1 f2 f3 f4 => ?_
  have hcB : cA = cB := ra_mat (hK.2 t0 _ ht).2 f1
  subst hcB
  generalize hH1 : H.push ({ cls := cA, slots := Array.replicate n.toNatClampNeg .null, vm := .none } : Cell) = H1
  have z1 : H1.size = H.size + 1 := by rw [← hH1, Array.size_push]
  have e1 : H1[H.size]? = some (arrV cA n.toNatClampNeg (fun _ => .null)) := by rw [← hH1, Array.getElem?_push_size, ← arrV_new]
  have o1 : ∀ q : Nat, q < H.size → H1[q]? = H[q]? := fun q hq => by rw [← hH1, Array.getElem?_push, if_neg (Nat.ne_of_lt hq)]
  have hk : ∀ (k : Nat) (x : Nat × va_E), ws[k]? = some x → H1[x.1]? = H[x.1]? := fun k x hx => o1 x.1 ((hP k x hx).lt)
  refine kk H.size H1 ((hP.kept hk).app (fun k x hx => ?_)) (hD.push hP rfl (hA _ hS.1)) ⟨Nat.le_trans hS.1 (by omega), fun x h1 h2 => (o1 x (Nat.lt_of_lt_of_le h1 hS.1)).trans (hS.2.1 x h1 h2), hS.2.2⟩
  have hz : k < 1 := (List.getElem?_eq_some_iff.mp hx).1
  rw [show k = 0 by omega] at hx
  cases hx
  exact e1
-- of a Sim's cells
variable {cI cZ cN : ClassId} {sm : Nat} {q : SA} {σ τ : Sg} {n k : Nat} {i x v : Int32}
theorem s_alF (hx : p.tables.exec = Jvm.exec) (hb : c.code = cc) (hK : va_K D cl (tZ cI cZ cN) s) (hP : va_P D cl ws H) (hsp : ws = w0 ++ (sC cI cN sm q σ n k ++ w2)) (j : Nat) (hi : i = nI j) (hj : j < n) (hn : n ≤ 16) (hdg : decode cc pc = .ok (.aaload, 1))
    (kk : W p l e R s m args below meth c H locs cells slots Q (F0 m (pc + 1) ls (.ref (q.2.1 j) :: rest))) : W p l e R s m args below meth c H locs cells slots Q (F0 m pc ls (.int i :: .ref q.1.1 :: rest)) :=
  x_ald hx hb hK hP _ 2 (sC_1 hsp) rfl j hi hj (by omega) hdg kk
theorem s_alD (hx : p.tables.exec = Jvm.exec) (hb : c.code = cc) (hK : va_K D cl (tZ cI cZ cN) s) (hP : va_P D cl ws H) (hsp : ws = w0 ++ (sC cI cN sm q σ n k ++ w2)) (j : Nat) (hi : i = nI j) (hj : j < k) (hn : k ≤ 16) (hdg : decode cc pc = .ok (.aaload, 1))
    (kk : W p l e R s m args below meth c H locs cells slots Q (F0 m (pc + 1) ls (.ref (q.2.2 j) :: rest))) : W p l e R s m args below meth c H locs cells slots Q (F0 m pc ls (.int i :: .ref q.1.2 :: rest)) :=
  x_ald hx hb hK hP _ 2 (sC_2 hsp) rfl j hi hj (by omega) hdg kk
theorem s_lnF (hx : p.tables.exec = Jvm.exec) (hb : c.code = cc) (hK : va_K D cl (tZ cI cZ cN) s) (hP : va_P D cl ws H) (hsp : ws = w0 ++ (sC cI cN sm q σ n k ++ w2)) (hdg : decode cc pc = .ok (.arraylength, 1))
    (kk : W p l e R s m args below meth c H locs cells slots Q (F0 m (pc + 1) ls (.int (nI n) :: rest))) : W p l e R s m args below meth c H locs cells slots Q (F0 m pc ls (.ref q.1.1 :: rest)) :=
  va_alen hx hb hK hP _ 2 (sC_1 hsp) rfl rfl hdg kk
theorem s_lnD (hx : p.tables.exec = Jvm.exec) (hb : c.code = cc) (hK : va_K D cl (tZ cI cZ cN) s) (hP : va_P D cl ws H) (hsp : ws = w0 ++ (sC cI cN sm q σ n k ++ w2)) (hdg : decode cc pc = .ok (.arraylength, 1))
    (kk : W p l e R s m args below meth c H locs cells slots Q (F0 m (pc + 1) ls (.int (nI k) :: rest))) : W p l e R s m args below meth c H locs cells slots Q (F0 m pc ls (.ref q.1.2 :: rest)) :=
  va_alen hx hb hK hP _ 2 (sC_2 hsp) rfl rfl hdg kk
theorem s_ldF (hx : p.tables.exec = Jvm.exec) (hb : c.code = cc) (hK : va_K D cl (tZ cI cZ cN) s) (hP : va_P D cl ws H) (hsp : ws = w0 ++ (sC cI cN sm q σ n k ++ w2)) (f : Nat) (hf : f < n) (j : Nat) (hi : i = nI j) (hj : j < 5) (hv : fX σ f j = v) (hdg : decode cc pc = .ok (.iaload, 1))
    (kk : W p l e R s m args below meth c H locs cells slots Q (F0 m (pc + 1) ls (.int v :: rest))) : W p l e R s m args below meth c H locs cells slots Q (F0 m pc ls (.int i :: .ref (q.2.1 f) :: rest)) :=
  x_ild hx hb hK hP _ 0 (sC_f hsp hf) rfl j hi hj (by decide) hv hdg kk
theorem s_ldD (hx : p.tables.exec = Jvm.exec) (hb : c.code = cc) (hK : va_K D cl (tZ cI cZ cN) s) (hP : va_P D cl ws H) (hsp : ws = w0 ++ (sC cI cN sm q σ n k ++ w2)) (d : Nat) (hd : d < k) (j : Nat) (hi : i = nI j) (hj : j < 6) (hv : dX σ d j = v) (hdg : decode cc pc = .ok (.iaload, 1))
    (kk : W p l e R s m args below meth c H locs cells slots Q (F0 m (pc + 1) ls (.int v :: rest))) : W p l e R s m args below meth c H locs cells slots Q (F0 m pc ls (.int i :: .ref (q.2.2 d) :: rest)) :=
  x_ild hx hb hK hP _ 0 (sC_d hsp hd) rfl j hi hj (by decide) hv hdg kk
theorem s_stF (hx : p.tables.exec = Jvm.exec) (hb : c.code = cc) (hK : va_K D cl (tZ cI cZ cN) s) (hP : va_P D cl ws H) (hD : va_D A ws) (hS : va_S A H0 H locs) (hsp : ws = w0 ++ (sC cI cN sm q σ n k ++ w2)) (f : Nat) (hf : f < n) (j : Nat) (hi : i = nI j) (hj : j < 5) (hdg : decode cc pc = .ok (.iastore, 1))
    (kk : ∀ (H1 : Heap) (locs1 : List Loc), va_P D cl (w0 ++ (sC cI cN sm q (su σ j f x) n k ++ w2)) H1 → va_D A (w0 ++ (sC cI cN sm q (su σ j f x) n k ++ w2)) → va_S A H0 H1 locs1 → W p l e R s m args below meth c H1 locs1 cells slots Q (F0 m (pc + 1) ls rest)) : W p l e R s m args below meth c H locs cells slots Q (F0 m pc ls (.int x :: .int i :: .ref (q.2.1 f) :: rest)) :=
  x_ist hx hb hK hP hD hS _ 0 (sC_f hsp hf) rfl j hi hj (by decide) (sC_sf hsp hf (fX_su σ hj f x) (fun _ h => fX_ne σ j f x h) (dX_row σ hj f x) (su_11 σ (by omega) f x 2) (su_11 σ (by omega) f x 4) (su_11 σ (by omega) f x 3)) hdg kk
theorem s_stD (hx : p.tables.exec = Jvm.exec) (hb : c.code = cc) (hK : va_K D cl (tZ cI cZ cN) s) (hP : va_P D cl ws H) (hD : va_D A ws) (hS : va_S A H0 H locs) (hsp : ws = w0 ++ (sC cI cN sm q σ n k ++ w2)) (d : Nat) (hd : d < k) (j r : Nat) (hjr : (j = 5 ∧ r = 8) ∨ (j = 4 ∧ r = 10)) (hi : i = nI j) (hdg : decode cc pc = .ok (.iastore, 1))
    (kk : ∀ (H1 : Heap) (locs1 : List Loc), va_P D cl (w0 ++ (sC cI cN sm q (su σ r d x) n k ++ w2)) H1 → va_D A (w0 ++ (sC cI cN sm q (su σ r d x) n k ++ w2)) → va_S A H0 H1 locs1 → W p l e R s m args below meth c H1 locs1 cells slots Q (F0 m (pc + 1) ls rest)) : W p l e R s m args below meth c H locs cells slots Q (F0 m pc ls (.int x :: .int i :: .ref (q.2.2 d) :: rest)) :=
  x_ist hx hb hK hP hD hS _ 0 (sC_d hsp hd) rfl j hi (by omega) (by decide) (sC_sd hsp hd (by rcases hjr with ⟨rfl, rfl⟩ | ⟨rfl, rfl⟩; exact dX_5 σ d x; exact dX_4 σ d x) (fun _ h => dX_ne σ r d x h) (fX_row σ (by omega) d x) (su_11 σ (by omega) d x 2) (su_11 σ (by omega) d x 4) (su_11 σ (by omega) d x 3)) hdg kk
theorem s_get {own : String} {index : Nat} (hx : p.tables.exec = Jvm.exec) (hb : c.code = cc) (hts : ∀ w ∈ LW, w.before args s = true) (hown : s.vm.findClass own = some m.cls) (hK : va_K D vwCl (tZ cI cZ cN) s) (hP : va_P D vwCl ws H) (hsp : ws = w0 ++ (sC cI cN sm q σ n k ++ w2)) (j : Nat) (hj : j < 5) (hlink : Cond.fieldLink own index (TX2 j).1 (TX2 j).2.1 (TX2 j).2.2.1 ∈ LW) {v : Value} (hv : [Value.ref q.1.1, .ref q.1.2, .int (σ 11 2), .int (σ 11 4), .int (σ 11 3)][j]? = some v) (hdg : decode cc pc = .ok (.getfield index, 3))
    (kk : W p l e R s m args below meth c H locs cells slots Q (F0 m (pc + 3) ls (v :: rest))) : W p l e R s m args below meth c H locs cells slots Q (F0 m pc ls (.ref sm :: rest)) :=
  x_get (C := RX2) (T := TX2) (N := 5) hx hb hts in_wsX20 hown hK hP _ (sC_0 hsp) rfl j hj hlink hv hdg kk
/-- rain, hour, sea -/
theorem s_put {own : String} {index : Nat} (hx : p.tables.exec = Jvm.exec) (hb : c.code = cc) (hts : ∀ w ∈ LW, w.before args s = true) (hown : s.vm.findClass own = some m.cls) (hK : va_K D vwCl (tZ cI cZ cN) s) (hP : va_P D vwCl ws H) (hD : va_D A ws) (hS : va_S A H0 H locs) (hsp : ws = w0 ++ (sC cI cN sm q σ n k ++ w2)) (j r : Nat) (hjr : (j = 2 ∧ r = 2) ∨ (j = 3 ∧ r = 4) ∨ (j = 4 ∧ r = 3)) (hlink : Cond.fieldLink own index (TX2 j).1 (TX2 j).2.1 (TX2 j).2.2.1 ∈ LW) (hdg : decode cc pc = .ok (.putfield index, 3))
    (kk : ∀ (H1 : Heap) (locs1 : List Loc), va_P D vwCl (w0 ++ (sC cI cN sm q (sc σ r x) n k ++ w2)) H1 → va_D A (w0 ++ (sC cI cN sm q (sc σ r x) n k ++ w2)) → va_S A H0 H1 locs1 → W p l e R s m args below meth c H1 locs1 cells slots Q (F0 m (pc + 3) ls rest)) : W p l e R s m args below meth c H locs cells slots Q (F0 m pc ls (.int x :: .ref sm :: rest)) := by
  refine x_put (C := RX2) (T := TX2) (N := 5) hx hb hts in_wsX20 tyX2_ok nmX2 hown hK hP hD hS _ (sC_0 hsp) rfl j (by omega) hlink (by rcases hjr with ⟨rfl, -⟩ | ⟨rfl, -⟩ | ⟨rfl, -⟩ <;> rfl) (by rcases hjr with ⟨rfl, -⟩ | ⟨rfl, -⟩ | ⟨rfl, -⟩ <;> decide +kernel) (by show j < 5; omega) (sC_so hsp (τ := sc σ r x) ?_ (fX_sc σ r x) (dX_sc σ r x)) hdg kk
  rcases hjr with ⟨rfl, rfl⟩ | ⟨rfl, rfl⟩ | ⟨rfl, rfl⟩ <;> rfl
end SR
-- the world's order, and what is dropped of it
theorem p_perm {D : va_G} {cl : List vw_C} {A : Nat → Prop} {H : Heap} {a b : va_W} (h : b.Perm a) (hP : va_P D cl a H) (hD : va_D A a) : va_P D cl b H ∧ va_D A b := by
  refine ⟨kP_iff.mpr fun q hq => kP_iff.mp hP q (h.mem_iff.mp hq), kD_iff.mpr ⟨?_, fun q hq => (kD_iff.mp hD).2 q (h.mem_iff.mp hq)⟩⟩
  exact ((h.map Prod.fst).nodup_iff).mpr (kD_iff.mp hD).1
theorem p_drop {D : va_G} {cl : List vw_C} {A : Nat → Prop} {H : Heap} {a b : va_W} (x : va_W) (h : (b ++ x).Perm a) (hP : va_P D cl a H) (hD : va_D A a) : va_P D cl b H ∧ va_D A b := by
  obtain ⟨h1, h2⟩ := p_perm h hP hD
  refine ⟨kP_iff.mpr fun q hq => kP_iff.mp h1 q (List.mem_append_left _ hq), kD_iff.mpr ⟨?_, fun q hq => (kD_iff.mp h2).2 q (List.mem_append_left _ hq)⟩⟩
  have h := (kD_iff.mp h2).1
  rw [List.map_append] at h
  exact (List.nodup_append.mp h).1
