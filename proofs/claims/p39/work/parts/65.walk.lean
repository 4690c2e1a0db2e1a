set_option maxHeartbeats 8000000 in
set_option maxRecDepth 100000 in
theorem whole_start {p : Program} {e : Env} {s : State} {m : MethodId} {below : List Frame} {meth : Method} {c : Code} (l : Launch) (hflags : l.flags = flags0) {b L : Nat} {xs : Nat → Int32} (hL : L ≤ 260) (C0 : lw_At p s m meth c b L xs) : W p l e room_1 s m #[Value.ref b] below meth c s.heap [] 0 0 (lw_Z below #[Value.ref b] s) (entryFrame m ([Value.ref b] : List Value).toArray 30) := by
  obtain ⟨hx, hb, hr, hml, hown, hts0, hX, hbl, hlocks, hgv⟩ := id C0
  have hts : ∀ w ∈ LW, w.before #[Value.ref b] s = true := fun w h => hts0 w (LW_tbl h)
  obtain ⟨A, eA⟩ : ∃ A : Nat → Prop, A = fun q => s.heap.size ≤ q := ⟨_, rfl⟩
  have hA : ∀ q : Nat, s.heap.size ≤ q → A q := fun q h => by rw [eA]; exact h
  have hAof : ∀ q : Nat, A q → s.heap.size ≤ q := fun q h => by rw [eA] at h; exact h
  have hbA : ¬ A b := fun h => absurd (hAof b h) (Nat.not_le.mpr hbl)
  have hE : EX A s s.heap := ex_start hts0
  have hE9 : EY (some (b, L, xs)) A s s.heap := ⟨hE, hX, hbl, hbA⟩
  obtain ⟨D, cI, cZ, cL, hK⟩ := k_start hts hE.2
  have hS : va_S A s.heap s.heap [] := va_S.rf
  have hP : va_P D vwCl [] s.heap := kP_iff.mpr (fun q hq => absurd hq List.not_mem_nil)
  have hD : va_D A [] := kD_iff.mpr ⟨List.nodup_nil, fun q hq => absurd hq List.not_mem_nil⟩
  obtain ⟨Q, eQ⟩ : ∃ Q, Q = lw_Z below #[Value.ref b] s := ⟨_, rfl⟩
  rw [← eQ]
  have hl := lv_entry ([.ref b]) (n := 30) (Nat.le_of_ble_eq_true rfl)
  rw [lg_entry_eq]
  generalize (lg_sl ([.ref b]) ++ List.replicate (30 - (lg_sl ([.ref b])).length) Slot.unset).toArray = ls at hl ⊢
  have hl : lv_has ls 30 [(0, .ref b)] := hl
  have hb : c.code = cL_law := hb
  have hown : s.vm.findClass RL = some m.cls := hown
  refine va_new (ci := 1) (C := RX1) (T := TX1) (N := 2) (fs := [.null, .null]) hx hb hts in_wsX10 tyX1 tyX1_ok hown (hts _ q20) (hts _ q21) (hts _ q9) hK hP hD hS hA rfl (by decide) (Nat.le_of_ble_eq_true rfl) (Nat.le_of_ble_eq_true rfl) dL_law_0 (fun ob H hP hD hS => ?_)
  refine lv_dup hx hb dL_law_3 rfl ?_
  refine MY.callI (b := ob) (As := []) (rest := [.ref ob]) (w0 := []) (w2 := []) (wB := fun x => oC ob x.1.1 x.1.2 ++ (mC cI cZ x.1.1 x.2.1 S0 ++ mC cI cZ x.1.2 x.2.2 S0)) (c_X1_init l D cI cZ cL ob) ⟨hx, hb, hml, hown, hts⟩ q22 b_X1_init rfl (n := 0) (by decide +kernel) ⟨(Nat.le_of_ble_eq_true rfl), (Nat.le_of_ble_eq_true rfl)⟩ hK hP hD hS hA (EY.non hE) rfl (fun _ => sp0 _) rfl hl.1 rfl (Nat.le_of_ble_eq_true rfl) dL_law_4 ⟨(Nat.le_of_ble_eq_true rfl), (Nat.le_of_ble_eq_true rfl)⟩ (fun x1 H locs hP hD hS => ?_)
  obtain ⟨⟨h, h2⟩, ⟨a, a2⟩⟩ := x1
  have hP : va_P D vwCl (oC ob h h2 ++ (mC cI cZ h a S0 ++ mC cI cZ h2 a2 S0)) H := hP
  have hD : va_D A (oC ob h h2 ++ (mC cI cZ h a S0 ++ mC cI cZ h2 a2 S0)) := hD
  refine lv_astore_n (lv' := [(1, .ref ob), (0, .ref b)]) hx hb dL_law_7 rfl hl (by decide) rfl (fun ls hl => ?_)
  refine lv_aload_n hx hb dL_law_8 rfl (lv_at hl 0 rfl) ?_
  refine lv_aload_n hx hb dL_law_9 rfl (lv_at hl 1 rfl) ?_
  refine MY.callS (As := [.ref ob, .ref b]) (rest := []) (w0 := []) (w2 := []) (wB := fun y => (sC cI cL y.1.1.1.1 y.1.2 y.1.1.2.1 y.1.1.1.2.1 y.1.1.1.2.2) ++ ((oC ob h h2) ++ ((mC cI cZ h a y.1.1.2.1) ++ (mC cI cZ h2 a2 y.1.1.2.2)))) (c_L_build l D cI cZ cL b L xs hL ob h a h2 a2 S0) ⟨hx, hb, hml, hown, hts⟩ q596 b_L_build (n := 2) (by decide +kernel) ⟨(Nat.le_of_ble_eq_true rfl), (Nat.le_of_ble_eq_true rfl)⟩ hK hP hD hS hA hE9 (sp0 _) (fun _ => sp0 _) rfl hl.1 rfl (Nat.le_of_ble_eq_true rfl) dL_law_10 ⟨(Nat.le_of_ble_eq_true rfl), (Nat.le_of_ble_eq_true rfl)⟩ (fun y H locs hP hD hS => ?_)
  obtain ⟨⟨⟨⟨sm, n0, k0⟩, ⟨σ0, τ0⟩⟩, q0⟩, hy1, hy2⟩ := y
  have hP : va_P D vwCl ((sC cI cL sm q0 σ0 n0 k0) ++ ((oC ob h h2) ++ ((mC cI cZ h a σ0) ++ (mC cI cZ h2 a2 τ0)))) H := hP
  have hD : va_D A ((sC cI cL sm q0 σ0 n0 k0) ++ ((oC ob h h2) ++ ((mC cI cZ h a σ0) ++ (mC cI cZ h2 a2 τ0)))) := hD
  have hy1 : Iv n0 k0 (12000 * 40) σ0 := hy1
  have hy2 : 2 ≤ n0 := hy2
  refine lv_astore_n (lv' := [(2, .ref sm), (1, .ref ob), (0, .ref b)]) hx hb dL_law_13 rfl hl (by decide) rfl (fun ls hl => ?_)
  refine lv_aload_n hx hb dL_law_14 rfl (lv_at hl 0 rfl) ?_
  refine lv_ifnonnull (tgt := 20) hx hb dL_law_15 (by decide) ?_
  refine lv_iconst (v := 0) hx hb dL_law_20 (by decide) ?_
  refine lv_istore_n (lv' := [(3, .int 0), (2, .ref sm), (1, .ref ob), (0, .ref b)]) hx hb dL_law_21 rfl hl (by decide) rfl (fun ls hl => ?_)
  have hl : lv_has ls 30 [(3, .int (nI 0)), (2, .ref sm), (1, .ref ob), (0, .ref b)] := hl
  have L22 : ∀ (f t : Nat), 5 < t + f → t ≤ 5 → ∀ (n k : Nat) (q : SA) (σ ρ : Sg), Iv n k (12000 * (40 + 5 * t)) σ → 2 ≤ n → ∀ (H : Heap) (locs : List Loc) (ls : Array Slot), va_P D vwCl ((sC cI cL sm q σ n k) ++ ((oC ob h h2) ++ ((mC cI cZ h a σ) ++ (mC cI cZ h2 a2 ρ)))) H → va_D A ((sC cI cL sm q σ n k) ++ ((oC ob h h2) ++ ((mC cI cZ h a σ) ++ (mC cI cZ h2 a2 ρ)))) → va_S A s.heap H locs → lv_has ls 30 [(0, .ref b), (1, .ref ob), (2, .ref sm), (3, .int (nI t))] → W p l e room_1 s m #[Value.ref b] below meth c H locs (100 + 700 * t) (3000 + 7000 * t) Q (F0 m 22 ls []) := by
    intro f
    induction f with
    | zero => intro t h1 h2; exact absurd h1 (by omega)
    | succ f ih =>
      intro t h1 h5 n k q σ ρ hI hn2 H locs ls hP hD hS hl
      refine lv_iload_n hx hb dL_law_22 rfl (lv_at hl 3 rfl) ?_
      refine lv_iconst (v := 5) hx hb dL_law_23 (by decide) ?_
      refine lv_icmp_ge (tgt := 1044) hx hb dL_law_24 (by decide) (fun c1 => ?_) (fun c1 => ?_)
      · have ht5 : 5 ≤ t := (nI_leI (a := 5) (b := t) (by omega) (by omega)).mp c1
        refine lv_aload_n hx hb dL_law_1044 rfl (lv_at hl 2 rfl) ?_
        refine lv_aload_n hx hb dL_law_1045 rfl (lv_at hl 1 rfl) ?_
        refine MY.callV0 (C := RX2) (T := TX2) (N := 5) (As := [.ref ob]) (rest := []) (w0 := []) (w2 := []) (wB := fun y => (sC cI cL sm q σ n k) ++ ((oC ob h h2) ++ ((mC cI cZ h a σ) ++ (mC cI cZ h2 a2 y)))) (c_X2_isSame l D cI cZ cL sm q σ hI.1 hI.2.1 (by omega) ob h a h2 a2 ρ) ⟨hx, hb, hml, hown, hts⟩ q490 b_X2_isSame (n := 1) (by decide +kernel) ⟨(Nat.le_of_ble_eq_true rfl), (Nat.le_of_ble_eq_true rfl)⟩ hK hP hD hS hA (EY.non hE) (sp0 _) (fun _ => sp0 _) (ci := 2) rfl rfl rfl hl.1 rfl (Nat.le_of_ble_eq_true rfl) dL_law_1046 ⟨by show 100 + 700 * t + 40 ≤ 650901; omega, by show 3000 + 7000 * t + 400 ≤ 7148764; omega⟩ (fun y H locs hP hD hS => ?_)
        refine va_forget (fun q hq => hAof _ (hS.2.2 q hq)) ?_
        refine W.wide (k := 650901) (n := 7148764) (by show 100 + 700 * t + 40 ≤ 650901; omega) (by show 3000 + 7000 * t + 400 ≤ 7148764; omega) ?_
        rw [eQ]
        exact lw_ret (d0 := s.drawn) (Drawn.sameBut.refl s.drawn lw_cs) hx hb hr hlocks dL_law_1049
      · have ht : t < 5 := Nat.not_le.mp (fun z => c1 ((nI_leI (a := 5) (b := t) (by omega) (by omega)).mpr z))
        refine law_A (b := b) (L := L) (xs := xs) l D cI cZ cL sm ob h a h2 a2 hx hb hml hown hts hE9 hK hA hL ht (by omega) (by omega) q σ hI hn2 ?_ ρ hP hD hS hl
        intro n k q σ ρ hI hn2 H locs ls hP hD hS hl
        refine lv_iinc (v := nI (t + 1)) (lv' := [(3, .int (nI (t + 1))), (0, .ref b), (1, .ref ob), (2, .ref sm)]) hx hb dL_law_1038 hl (k := 3) rfl (nI_add t 1) (by decide) rfl (fun ls hl => ?_)
        refine lv_goto (tgt := 22) hx hb dL_law_1041 (by decide) ?_
        refine W.wide (k := 100 + 700 * (t + 1)) (n := 3000 + 7000 * (t + 1)) (by omega) (by omega) ?_
        exact ih (t + 1) (by omega) (by omega) n k q σ ρ hI hn2 _ _ _ hP hD hS (lv_sub hl [1, 2, 3, 0] rfl)
  refine W.wide (k := 100 + 700 * 0) (n := 3000 + 7000 * 0) (Nat.le_of_ble_eq_true rfl) (Nat.le_of_ble_eq_true rfl) ?_
  exact L22 6 0 (by omega) (by omega) n0 k0 q0 σ0 τ0 (hy1.mono (by omega)) hy2 _ _ _ hP hD hS (lv_sub hl [3, 2, 1, 0] rfl)
