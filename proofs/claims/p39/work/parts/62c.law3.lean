set_option maxHeartbeats 16000000 in
set_option maxRecDepth 100000 in
theorem law_A (l : Launch) {p : Program} {e : Env} {s : State} {m : MethodId} {args : Array Value} {below : List Frame} {meth : Method} {c : Code} {Q : State → Prop} (D : va_G) (cI cZ cL : ClassId) {A : Nat → Prop} {b L : Nat} {xs : Nat → Int32} (sm ob h : Nat) (a : Nat → Nat) (h2 : Nat) (a2 : Nat → Nat) (hx : p.tables.exec = Jvm.exec) (hb : c.code = cL_law) (hml : c.maxLocals = 30) (hown : s.vm.findClass RL = some m.cls) (hts : ∀ w ∈ LW, w.before args s = true) (hE9 : EY (some (b, L, xs)) A s s.heap) (hK : va_K D vwCl (tZ cI cZ cL) s) (hA : ∀ q : Nat, s.heap.size ≤ q → A q) (hL : L ≤ 260) {t : Nat} (ht : t < 5) {c0 s0 : Nat} (hc0 : c0 + 700 ≤ 650901) (hs0 : s0 + 7000 ≤ 7148764) {n k : Nat} (q : SA) (σ : Sg) (hI : Iv n k (12000 * (40 + 5 * t)) σ) (hn2 : 2 ≤ n) (NX : (∀ (n k : Nat) (q : SA) (σ ρ : Sg), Iv n k (12000 * (40 + 5 * (t + 1))) σ → 2 ≤ n → ∀ (H : Heap) (locs : List Loc) (ls : Array Slot), va_P D vwCl ((sC cI cL sm q σ n k) ++ ((oC ob h h2) ++ ((mC cI cZ h a σ) ++ (mC cI cZ h2 a2 ρ)))) H → va_D A ((sC cI cL sm q σ n k) ++ ((oC ob h h2) ++ ((mC cI cZ h a σ) ++ (mC cI cZ h2 a2 ρ)))) → va_S A s.heap H locs → lv_has ls 30 [(0, .ref b), (1, .ref ob), (2, .ref sm), (3, .int (nI t))] → W p l e room_1 s m args below meth c H locs (c0 + 700) (s0 + 7000) Q (F0 m 1038 ls []))) (τ : Sg) {H : Heap} {locs : List Loc} {ls : Array Slot} (hP : va_P D vwCl ((sC cI cL sm q σ n k) ++ ((oC ob h h2) ++ ((mC cI cZ h a σ) ++ (mC cI cZ h2 a2 τ)))) H) (hD : va_D A ((sC cI cL sm q σ n k) ++ ((oC ob h h2) ++ ((mC cI cZ h a σ) ++ (mC cI cZ h2 a2 τ))))) (hS : va_S A s.heap H locs) (hl : lv_has ls 30 [(0, .ref b), (1, .ref ob), (2, .ref sm), (3, .int (nI t))]) : W p l e room_1 s m args below meth c H locs c0 s0 Q (F0 m 27 ls []) := by
  have hE : EX A s s.heap := hE9.1
  refine lv_aload_n hx hb dL_law_27 rfl (lv_at hl 0 rfl) ?_
  refine lv_iload_n hx hb dL_law_28 rfl (lv_at hl 3 rfl) ?_
  refine lv_iconst (v := 1) hx hb dL_law_29 (by decide) ?_
  refine lv_iadd hx hb dL_law_30 ?_
  refine x_top (nI_add t 1) ?_
  refine MY.callS (As := [.ref b, .int (nI (t + 1))]) (rest := []) (w0 := (sC cI cL sm q σ n k) ++ ((oC ob h h2) ++ ((mC cI cZ h a σ) ++ (mC cI cZ h2 a2 τ)))) (w2 := []) (wB := fun _ => (sC cI cL sm q σ n k) ++ ((oC ob h h2) ++ ((mC cI cZ h a σ) ++ (mC cI cZ h2 a2 τ)))) (c_L_cell l D cI cZ cL b L xs hL (t + 1) (by omega)) ⟨hx, hb, hml, hown, hts⟩ q533 b_L_cell (n := 2) (by decide +kernel) ⟨(Nat.le_of_ble_eq_true rfl), (Nat.le_of_ble_eq_true rfl)⟩ hK hP hD hS hA hE9 (spE _) (fun _ => spE _) rfl hl.1 rfl (Nat.le_of_ble_eq_true rfl) dL_law_31 ⟨by show c0 + 0 ≤ 650901; omega, by show s0 + 0 ≤ 7148764; omega⟩ (fun x_1 H locs hP hD hS => ?_)
  refine W.wide (k := c0) (n := s0) (by show c0 + 0 ≤ c0; omega) (by show s0 + 0 ≤ s0; omega) ?_
  refine lv_iconst (v := 2) hx hb dL_law_34 (by decide) ?_
  refine lv_ishr hx hb dL_law_35 ?_
  refine lv_bipush (v := 53) hx hb dL_law_36 (by decide) ?_
  refine lv_iload_n hx hb dL_law_38 rfl (lv_at hl 3 rfl) ?_
  refine lv_imul hx hb dL_law_39 ?_
  refine lv_iadd hx hb dL_law_40 ?_
  refine lv_topi (fun v_2 ev_2 => ?_)
  refine lv_istore (lv' := [(4, .int v_2), (0, .ref b), (1, .ref ob), (2, .ref sm), (3, .int (nI t))]) hx hb dL_law_41 hl (by decide) rfl (fun ls hl => ?_)
  refine lv_iconst (v := 0) hx hb dL_law_43 (by decide) ?_
  refine lv_istore (lv' := [(5, .int 0), (4, .int v_2), (0, .ref b), (1, .ref ob), (2, .ref sm), (3, .int (nI t))]) hx hb dL_law_44 hl (by decide) rfl (fun ls hl => ?_)
  have hl := lv_sub hl [2, 3, 4, 5, 1, 0] rfl
  have hl : lv_has ls 30 [(0, .ref b), (1, .ref ob), (2, .ref sm), (3, .int (nI t)), (4, .int v_2), (5, .int (nI 0))] := hl
  refine W.wide (k := c0 + 2 * 0) (n := s0 + 23 * 0) (by first | omega | exact Nat.le_of_ble_eq_true rfl) (by first | omega | exact Nat.le_of_ble_eq_true rfl) ?_
  have L46 : ∀ (f i : Nat) (n : Nat) (k : Nat) (σ : Sg) (ρ : Sg) (q : SA), i ≤ 3 → 3 < i + f → Iv n k (12000 * (40 + 5 * t + i)) σ → 2 ≤ n → ∀ (H : Heap) (locs : List Loc) (ls : Array Slot), va_P D vwCl ((sC cI cL sm q σ n k) ++ ((oC ob h h2) ++ ((mC cI cZ h a σ) ++ (mC cI cZ h2 a2 ρ)))) H → va_D A ((sC cI cL sm q σ n k) ++ ((oC ob h h2) ++ ((mC cI cZ h a σ) ++ (mC cI cZ h2 a2 ρ)))) → va_S A s.heap H locs → lv_has ls 30 [(0, .ref b), (1, .ref ob), (2, .ref sm), (3, .int (nI t)), (4, .int v_2), (5, .int (nI i))] → W p l e room_1 s m args below meth c H locs (c0 + 2 * i) (s0 + 23 * i) Q (F0 m 46 ls []) := by
    intro f
    induction f with
    | zero => intro i n k σ ρ q h1 h2; exact absurd h2 (by omega)
    | succ f ih_46 =>
      intro i n k σ ρ q hi_46 hf_46 hI hn2 H locs ls hP hD hS hl
      refine lv_iload hx hb dL_law_46 (lv_at hl 5 rfl) ?_
      refine lv_iconst (v := 3) hx hb dL_law_48 (by decide) ?_
      refine lv_icmp_ge (tgt := 81) hx hb dL_law_49 (by decide) (fun c_49 => ?_) (fun c_49 => ?_)
      · have hc_49 : 3 ≤ i := (nI_leI (a := 3) (b := i) (by omega) (by omega)).mp c_49
        refine W.wide (k := (c0 + 10)) (n := (s0 + 100)) (by first | omega | exact Nat.le_of_ble_eq_true rfl) (by first | omega | exact Nat.le_of_ble_eq_true rfl) ?_
        have hI9 : Iv n k (12000 * (40 + 5 * t + 3)) σ := hI.mono (by omega)
        have hb12 : bel (v_2 >>> (6 &&& 31)) 12 < 12 := bel_lt (by omega)
        exact law_B l D cI cZ cL sm ob h a h2 a2 hx hb hml hown hts hE9 hK hA hL ht hc0 hs0 q σ hI9 hn2 (by omega) v_2 (fun ρ H locs ls hP hD hS hl => (law_C l D cI cZ cL sm ob h a h2 a2 hx hb hml hown hts hE9 hK hA hL ht hc0 hs0 q σ hI9 hn2 (by omega) v_2 (fun ρ H locs ls hP hD hS hl => (law_D l D cI cZ cL sm ob h a h2 a2 hx hb hml hown hts hE9 hK hA hL ht hc0 hs0 q σ hI9 hn2 (by omega) v_2 (fun ρ H locs ls hP hD hS hl => (law_E l D cI cZ cL sm ob h a h2 a2 hx hb hml hown hts hE9 hK hA hL ht hc0 hs0 q σ hI9 hn2 (by omega) v_2 (fun ρ H locs ls hP hD hS hl => (law_F l D cI cZ cL sm ob h a h2 a2 hx hb hml hown hts hE9 hK hA hL ht hc0 hs0 q σ hI9 hn2 (by omega) v_2 (fun ρ H locs ls hP hD hS hl => (law_G l D cI cZ cL sm ob h a h2 a2 hx hb hml hown hts hE9 hK hA hL ht hc0 hs0 q σ hI9 hn2 (by omega) v_2 (fun ρ H locs ls hP hD hS hl => (law_H l D cI cZ cL sm ob h a h2 a2 hx hb hml hown hts hE9 hK hA hL ht hc0 hs0 q σ hI9 hn2 (by omega) v_2 (1 + (bel (v_2 >>> (6 &&& 31)) 12)) (bel (v_2 >>> (3 &&& 31)) n) (by omega) (by omega) (bel_lt (by omega)) (fun ρ H locs ls hP hD hS hl => NX n k q (hours (1 + (bel (v_2 >>> (6 &&& 31)) 12)) σ) ρ ((hI9.hrs _ (by omega)).mono (by omega)) hn2 _ _ _ hP hD hS hl) ρ hP hD hS hl)) ρ hP hD hS hl)) ρ hP hD hS hl)) ρ hP hD hS hl)) ρ hP hD hS hl)) ρ hP hD hS hl)) ρ hP hD hS (lv_sub hl [0, 1, 2, 3, 4] rfl)
      · have hc_49 : i < 3 := Nat.not_le.mp (fun z => c_49 ((nI_leI (a := 3) (b := i) (by omega) (by omega)).mpr z))
        refine lv_aload_n hx hb dL_law_52 rfl (lv_at hl 1 rfl) ?_
        refine lv_aload_n hx hb dL_law_53 rfl (lv_at hl 2 rfl) ?_
        refine lv_iload hx hb dL_law_54 (lv_at hl 4 rfl) ?_
        refine lv_iconst (v := 3) hx hb dL_law_56 (by decide) ?_
        refine lv_iload hx hb dL_law_57 (lv_at hl 5 rfl) ?_
        refine lv_imul hx hb dL_law_59 ?_
        refine lv_ishr hx hb dL_law_60 ?_
        refine lv_bipush (v := 29) hx hb dL_law_61 (by decide) ?_
        refine lv_iload hx hb dL_law_63 (lv_at hl 5 rfl) ?_
        refine lv_imul hx hb dL_law_65 ?_
        refine lv_iadd hx hb dL_law_66 ?_
        refine MY.callS (As := [.ref ob, .ref sm, .int ((v_2 >>> (((3 : Int32) * (nI i)) &&& 31)) + ((29 : Int32) * (nI i)))]) (rest := []) (w0 := []) (w2 := []) (wB := fun y => (sC cI cL sm y.1.2 y.1.1.2.1 y.1.1.1.1 y.1.1.1.2) ++ ((oC ob h h2) ++ ((mC cI cZ h a y.1.1.2.1) ++ (mC cI cZ h2 a2 y.1.1.2.2)))) (c_L_act l D cI cZ cL sm q σ hI (by omega) ob h a h2 a2 ρ ((v_2 >>> (((3 : Int32) * (nI i)) &&& 31)) + ((29 : Int32) * (nI i)))) ⟨hx, hb, hml, hown, hts⟩ q537 b_L_act (n := 3) (by decide +kernel) ⟨(Nat.le_of_ble_eq_true rfl), (Nat.le_of_ble_eq_true rfl)⟩ hK hP hD hS hA (EY.non hE) (sp0 _) (fun _ => sp0 _) rfl hl.1 rfl (Nat.le_of_ble_eq_true rfl) dL_law_67 ⟨by show (c0 + 2 * i) + 2 ≤ 650901; omega, by show (s0 + 23 * i) + 23 ≤ 7148764; omega⟩ (fun y H locs hP hD hS => ?_)
        have hP : va_P D vwCl ((sC cI cL sm y.1.2 y.1.1.2.1 y.1.1.1.1 y.1.1.1.2) ++ ((oC ob h h2) ++ ((mC cI cZ h a y.1.1.2.1) ++ (mC cI cZ h2 a2 y.1.1.2.2)))) H := hP
        have hD : va_D A ((sC cI cL sm y.1.2 y.1.1.2.1 y.1.1.1.1 y.1.1.1.2) ++ ((oC ob h h2) ++ ((mC cI cZ h a y.1.1.2.1) ++ (mC cI cZ h2 a2 y.1.1.2.2)))) := hD
        refine W.wide (k := ((c0 + 2 * i) + 2)) (n := ((s0 + 23 * i) + 23)) (by show (c0 + 2 * i) + 2 ≤ ((c0 + 2 * i) + 2); omega) (by show (s0 + 23 * i) + 23 ≤ ((s0 + 23 * i) + 23); omega) ?_
        have y2 := y.2.2.1
        have y3 := y.2.2.2
        refine lv_if_ne (tgt := 75) hx hb dL_law_70 (by decide) (fun c_70 => ?_) (fun z => absurd z (by decide))
        refine lv_iinc (v := (nI (i + 1))) (lv' := [(5, .int (nI (i + 1))), (0, .ref b), (1, .ref ob), (2, .ref sm), (3, .int (nI t)), (4, .int v_2)]) hx hb dL_law_75 hl (k := 5) rfl (nI_add i 1) (by decide) rfl (fun ls hl => ?_)
        refine lv_goto (tgt := 46) hx hb dL_law_78 (by decide) ?_
        refine W.wide (k := c0 + 2 * (i + 1)) (n := s0 + 23 * (i + 1)) (by first | omega | exact Nat.le_of_ble_eq_true rfl) (by first | omega | exact Nat.le_of_ble_eq_true rfl) ?_
        exact ih_46 (i + 1) y.1.1.1.1 y.1.1.1.2 y.1.1.2.1 y.1.1.2.2 y.1.2 (by omega) (by omega) (y.2.1.mono (by omega)) (by omega) _ _ _ hP hD hS (lv_sub hl [1, 2, 3, 4, 5, 0] rfl)
  exact L46 (3 + 1) 0 n k σ τ q (by omega) (by omega) hI hn2 _ _ _ hP hD hS (lv_sub hl [0, 1, 2, 3, 4, 5] rfl)
