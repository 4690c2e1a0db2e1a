abbrev rmX2_isSame : Room := { frames := 3, cells := 40, slots := 400, locals := 105 }
theorem b_X2_isSame : Cond.instanceMethod yX2_isSame ∈ LW ∧ Cond.selects RX2 yX2_isSame yX2_isSame ∈ LW ∧ Cond.initialized RX2 ∈ LW ∧ Cond.code yX2_isSame cX2_isSame 14 (some .boolean) ∈ LW := ⟨q491, q492, q11, q493⟩
set_option maxHeartbeats 16000000 in
set_option maxRecDepth 100000 in
theorem c_X2_isSame (l : Launch) (D : va_G) (cI cZ cL : ClassId) {n k : Nat} (sm : Nat) (q : SA) (σ : Sg) (hst : Shp n k σ) {B : Nat} (hB : Bnd B σ) (hB2 : B < 2 ^ 29) (ob h : Nat) (a : Nat → Nat) (h2 : Nat) (a2 : Nat → Nat) (τ : Sg) : MY (ι := Sg) none l yX2_isSame cX2_isSame 14 (some .boolean) rmX2_isSame D (tZ cI cZ cL) [.ref sm, .ref ob] ((sC cI cL sm q σ n k) ++ ((oC ob h h2) ++ ((mC cI cZ h a σ) ++ (mC cI cZ h2 a2 τ)))) (fun y => (sC cI cL sm q σ n k) ++ ((oC ob h h2) ++ ((mC cI cZ h a σ) ++ (mC cI cZ h2 a2 y)))) (fun y => some (.int 1)) := by
  refine MY.of (by decide) (Nat.le_of_ble_eq_true rfl) ?_
  intro p e s m args below meth c A ls Q hx hb hml hr hts hown hlocks hA hP hD hK hS hl hQ hE9 hnm
  have hE : EX A s s.heap := hE9.1
  have hown : s.vm.findClass RX2 = some m.cls := hown
  have hn10 := hst.1
  have hk16 := hst.2.1
  have hl : lv_has ls 14 [(0, .ref sm), (1, .ref ob)] := hl
  refine lv_iconst (v := 0) hx hb dX2_isSame_0 (by decide) ?_
  refine lv_istore_n (lv' := [(2, .int 0), (0, .ref sm), (1, .ref ob)]) hx hb dX2_isSame_1 rfl hl (by decide) rfl (fun ls hl => ?_)
  refine lv_iconst (v := 0) hx hb dX2_isSame_2 (by decide) ?_
  refine lv_istore_n (lv' := [(3, .int 0), (2, .int 0), (0, .ref sm), (1, .ref ob)]) hx hb dX2_isSame_3 rfl hl (by decide) rfl (fun ls hl => ?_)
  refine lv_iconst (v := 0) hx hb dX2_isSame_4 (by decide) ?_
  refine lv_istore (lv' := [(4, .int 0), (3, .int 0), (2, .int 0), (0, .ref sm), (1, .ref ob)]) hx hb dX2_isSame_5 hl (by decide) rfl (fun ls hl => ?_)
  refine lv_iconst (v := (-1)) hx hb dX2_isSame_7 (by decide) ?_
  refine lv_istore (lv' := [(5, .int (-1)), (4, .int 0), (3, .int 0), (2, .int 0), (0, .ref sm), (1, .ref ob)]) hx hb dX2_isSame_8 hl (by decide) rfl (fun ls hl => ?_)
  refine lv_iconst (v := (-1)) hx hb dX2_isSame_10 (by decide) ?_
  refine lv_istore (lv' := [(6, .int (-1)), (5, .int (-1)), (4, .int 0), (3, .int 0), (2, .int 0), (0, .ref sm), (1, .ref ob)]) hx hb dX2_isSame_11 hl (by decide) rfl (fun ls hl => ?_)
  refine lv_iconst (v := 0) hx hb dX2_isSame_13 (by decide) ?_
  refine lv_istore (lv' := [(7, .int 0), (6, .int (-1)), (5, .int (-1)), (4, .int 0), (3, .int 0), (2, .int 0), (0, .ref sm), (1, .ref ob)]) hx hb dX2_isSame_14 hl (by decide) rfl (fun ls hl => ?_)
  have hl := lv_sub hl [6, 7, 5, 4, 3, 2, 1, 0] rfl
  have hl : lv_has ls 14 [(0, .ref sm), (1, .ref ob), (2, .int (sumI (fun f => σ 2 f) 0)), (3, .int (sumI (fun f => isW σ f) 0)), (4, .int (sumI (fun f => if σ 4 f = 0 then (0 : Int32) else 1) 0)), (5, .int (amax (fun q => σ 0 q + σ 2 q) 0)), (6, .int (-1)), (7, .int (nI 0))] := hl
  refine W.wide (k := 2 * 0) (n := 20 * 0) (by first | omega | exact Nat.le_of_ble_eq_true rfl) (by first | omega | exact Nat.le_of_ble_eq_true rfl) ?_
  have L16 : ∀ (f i : Nat) (ρ : Sg), i ≤ n → n < i + f → ∀ (H : Heap) (locs : List Loc) (ls : Array Slot), va_P D vwCl ((sC cI cL sm q σ n k) ++ ((oC ob h h2) ++ ((mC cI cZ h a σ) ++ (mC cI cZ h2 a2 ρ)))) H → va_D A ((sC cI cL sm q σ n k) ++ ((oC ob h h2) ++ ((mC cI cZ h a σ) ++ (mC cI cZ h2 a2 ρ)))) → va_S A s.heap H locs → lv_has ls 14 [(0, .ref sm), (1, .ref ob), (2, .int (sumI (fun f => σ 2 f) i)), (3, .int (sumI (fun f => isW σ f) i)), (4, .int (sumI (fun f => if σ 4 f = 0 then (0 : Int32) else 1) i)), (5, .int (amax (fun q => σ 0 q + σ 2 q) i)), (6, .int (-1)), (7, .int (nI i))] → W p l e rmX2_isSame s m args below meth c H locs (2 * i) (20 * i) Q (F0 m 16 ls []) := by
    intro f
    induction f with
    | zero => intro i ρ h1 h2; exact absurd h2 (by omega)
    | succ f ih_16 =>
      intro i ρ hi_16 hf_16 H locs ls hP hD hS hl
      refine lv_iload hx hb dX2_isSame_16 (lv_at hl 7 rfl) ?_
      refine lv_aload_n hx hb dX2_isSame_18 rfl (lv_at hl 0 rfl) ?_
      refine s_get hx hb hts hown hK hP (σ := σ) (n := n) (k := k) (q := q) (sm := sm) (w0 := []) (w2 := (oC ob h h2) ++ ((mC cI cZ h a σ) ++ (mC cI cZ h2 a2 ρ))) rfl 0 (by decide) q433 (v := .ref q.1.1) rfl dX2_isSame_19 ?_
      refine s_lnF hx hb hK hP (σ := σ) (n := n) (k := k) (q := q) (sm := sm) (w0 := []) (w2 := (oC ob h h2) ++ ((mC cI cZ h a σ) ++ (mC cI cZ h2 a2 ρ))) rfl dX2_isSame_22 ?_
      refine lv_icmp_ge (tgt := 261) hx hb dX2_isSame_23 (by decide) (fun c_23 => ?_) (fun c_23 => ?_)
      · have hc_23 : n ≤ i := (nI_leI (a := n) (b := i) (by omega) (by omega)).mp c_23
        refine lv_iconst (v := 0) hx hb dX2_isSame_261 (by decide) ?_
        refine lv_istore (lv' := [(7, .int 0), (0, .ref sm), (1, .ref ob), (2, .int (sumI (fun f => σ 2 f) i)), (3, .int (sumI (fun f => isW σ f) i)), (4, .int (sumI (fun f => if σ 4 f = 0 then (0 : Int32) else 1) i)), (5, .int (amax (fun q => σ 0 q + σ 2 q) i)), (6, .int (-1))]) hx hb dX2_isSame_262 hl (by decide) rfl (fun ls hl => ?_)
        have hin : i = n := by omega
        have hl := lv_sub hl [1, 2, 3, 4, 5, 6, 7, 0] rfl
        have hl : lv_has ls 14 [(0, .ref sm), (1, .ref ob), (2, .int (sumI (fun f => σ 2 f) i)), (3, .int (sumI (fun f => isW σ f) i)), (4, .int (sumI (fun f => if σ 4 f = 0 then (0 : Int32) else 1) i)), (5, .int (amax (fun q => σ 0 q + σ 2 q) i)), (6, .int (-1)), (7, .int (nI 0))] := hl
        rw [hin] at hl
        have hl : lv_has ls 14 [(0, .ref sm), (1, .ref ob), (2, .int (sumI (fun f => σ 2 f) n)), (3, .int (sumI (fun f => isW σ f) n)), (4, .int (sumI (fun f => if σ 4 f = 0 then (0 : Int32) else 1) n)), (5, .int (amax (fun q => σ 0 q + σ 2 q) n)), (6, .int (amax (fun q => σ 8 q) 0)), (7, .int (nI 0))] := hl
        refine W.wide (k := 40) (n := 400) (by first | omega | exact Nat.le_of_ble_eq_true rfl) (by first | omega | exact Nat.le_of_ble_eq_true rfl) ?_
        have L264 : ∀ (f u : Nat) (ρ : Sg), u ≤ k → k < u + f → ∀ (H : Heap) (locs : List Loc) (ls : Array Slot), va_P D vwCl ((sC cI cL sm q σ n k) ++ ((oC ob h h2) ++ ((mC cI cZ h a σ) ++ (mC cI cZ h2 a2 ρ)))) H → va_D A ((sC cI cL sm q σ n k) ++ ((oC ob h h2) ++ ((mC cI cZ h a σ) ++ (mC cI cZ h2 a2 ρ)))) → va_S A s.heap H locs → lv_has ls 14 [(0, .ref sm), (1, .ref ob), (2, .int (sumI (fun f => σ 2 f) n)), (3, .int (sumI (fun f => isW σ f) n)), (4, .int (sumI (fun f => if σ 4 f = 0 then (0 : Int32) else 1) n)), (5, .int (amax (fun q => σ 0 q + σ 2 q) n)), (6, .int (amax (fun q => σ 8 q) u)), (7, .int (nI u))] → W p l e rmX2_isSame s m args below meth c H locs 40 400 Q (F0 m 264 ls []) := by
          intro f
          induction f with
          | zero => intro u ρ h1 h2; exact absurd h2 (by omega)
          | succ f ih_264 =>
            intro u ρ hi_264 hf_264 H locs ls hP hD hS hl
            refine lv_iload hx hb dX2_isSame_264 (lv_at hl 7 rfl) ?_
            refine lv_aload_n hx hb dX2_isSame_266 rfl (lv_at hl 0 rfl) ?_
            refine s_get hx hb hts hown hK hP (σ := σ) (n := n) (k := k) (q := q) (sm := sm) (w0 := []) (w2 := (oC ob h h2) ++ ((mC cI cZ h a σ) ++ (mC cI cZ h2 a2 ρ))) rfl 1 (by decide) q435 (v := .ref q.1.2) rfl dX2_isSame_267 ?_
            refine s_lnD hx hb hK hP (σ := σ) (n := n) (k := k) (q := q) (sm := sm) (w0 := []) (w2 := (oC ob h h2) ++ ((mC cI cZ h a σ) ++ (mC cI cZ h2 a2 ρ))) rfl dX2_isSame_270 ?_
            refine lv_icmp_ge (tgt := 388) hx hb dX2_isSame_271 (by decide) (fun c_271 => ?_) (fun c_271 => ?_)
            · have hc_271 : k ≤ u := (nI_leI (a := k) (b := u) (by omega) (by omega)).mp c_271
              have huk : u = k := by omega
              rw [huk] at hl
              have hl : lv_has ls 14 [(0, .ref sm), (1, .ref ob), (2, .int (sumI (fun f => σ 2 f) n)), (3, .int (sumI (fun f => isW σ f) n)), (4, .int (sumI (fun f => if σ 4 f = 0 then (0 : Int32) else 1) n)), (5, .int (amax (fun q => σ 0 q + σ 2 q) n)), (6, .int (amax (fun q => σ 8 q) k)), (7, .int (nI k))] := hl
              refine lv_aload_n hx hb dX2_isSame_388 rfl (lv_at hl 1 rfl) ?_
              refine MX.callV0 (C := RX1) (T := TX1) (N := 2) (As := []) (rest := []) (w0 := sC cI cL sm q σ n k) (w2 := []) (wB := fun ρ => (sC cI cL sm q σ n k) ++ ((oC ob h h2) ++ ((mC cI cZ h a σ) ++ (mC cI cZ h2 a2 ρ)))) (c_X1_hour l D cI cZ cL ob h a h2 a2 σ ρ ) ⟨hx, hb, hml, hown, hts⟩ q511 b_X1_hour (n := 0) (by decide +kernel) ⟨(Nat.le_of_ble_eq_true rfl), (Nat.le_of_ble_eq_true rfl)⟩ hK hP hD hS hA hE (by rw [List.append_nil]) (fun _ => by rw [List.append_nil]) (ci := 1) rfl rfl rfl hl.1 rfl (Nat.le_of_ble_eq_true rfl) dX2_isSame_389 ⟨by show 40 + 0 ≤ 40; omega, by show 400 + 0 ≤ 400; omega⟩ (fun ρ_1 H locs hP hD hS => ?_)
              have hP : va_P D vwCl ((sC cI cL sm q σ n k) ++ ((oC ob h h2) ++ ((mC cI cZ h a σ) ++ (mC cI cZ h2 a2 ρ_1)))) H := hP
              have hD : va_D A ((sC cI cL sm q σ n k) ++ ((oC ob h h2) ++ ((mC cI cZ h a σ) ++ (mC cI cZ h2 a2 ρ_1)))) := hD
              refine W.wide (k := 40) (n := 400) (Nat.le_refl _) (Nat.le_refl _) ?_
              refine lv_aload_n hx hb dX2_isSame_392 rfl (lv_at hl 0 rfl) ?_
              refine s_get hx hb hts hown hK hP (σ := σ) (n := n) (k := k) (q := q) (sm := sm) (w0 := []) (w2 := (oC ob h h2) ++ ((mC cI cZ h a σ) ++ (mC cI cZ h2 a2 ρ_1))) rfl 3 (by decide) q439 (v := .int (σ 11 4)) rfl dX2_isSame_393 ?_
              refine lv_icmp_ne (tgt := 532) hx hb dX2_isSame_396 (by decide) (fun z => absurd (rfl) z) (fun c_396 => ?_)
              refine lv_aload_n hx hb dX2_isSame_399 rfl (lv_at hl 1 rfl) ?_
              refine MX.callV0 (C := RX1) (T := TX1) (N := 2) (As := []) (rest := []) (w0 := sC cI cL sm q σ n k) (w2 := []) (wB := fun ρ => (sC cI cL sm q σ n k) ++ ((oC ob h h2) ++ ((mC cI cZ h a σ) ++ (mC cI cZ h2 a2 ρ)))) (c_X1_fields l D cI cZ cL ob h a h2 a2 σ ρ_1 ) ⟨hx, hb, hml, hown, hts⟩ q512 b_X1_fields (n := 0) (by decide +kernel) ⟨(Nat.le_of_ble_eq_true rfl), (Nat.le_of_ble_eq_true rfl)⟩ hK hP hD hS hA hE (by rw [List.append_nil]) (fun _ => by rw [List.append_nil]) (ci := 1) rfl rfl rfl hl.1 rfl (Nat.le_of_ble_eq_true rfl) dX2_isSame_400 ⟨by show 40 + 0 ≤ 40; omega, by show 400 + 0 ≤ 400; omega⟩ (fun ρ_2 H locs hP hD hS => ?_)
              have hP : va_P D vwCl ((sC cI cL sm q σ n k) ++ ((oC ob h h2) ++ ((mC cI cZ h a σ) ++ (mC cI cZ h2 a2 ρ_2)))) H := hP
              have hD : va_D A ((sC cI cL sm q σ n k) ++ ((oC ob h h2) ++ ((mC cI cZ h a σ) ++ (mC cI cZ h2 a2 ρ_2)))) := hD
              refine W.wide (k := 40) (n := 400) (Nat.le_refl _) (Nat.le_refl _) ?_
              refine lv_aload_n hx hb dX2_isSame_403 rfl (lv_at hl 0 rfl) ?_
              refine s_get hx hb hts hown hK hP (σ := σ) (n := n) (k := k) (q := q) (sm := sm) (w0 := []) (w2 := (oC ob h h2) ++ ((mC cI cZ h a σ) ++ (mC cI cZ h2 a2 ρ_2))) rfl 0 (by decide) q433 (v := .ref q.1.1) rfl dX2_isSame_404 ?_
              refine s_lnF hx hb hK hP (σ := σ) (n := n) (k := k) (q := q) (sm := sm) (w0 := []) (w2 := (oC ob h h2) ++ ((mC cI cZ h a σ) ++ (mC cI cZ h2 a2 ρ_2))) rfl dX2_isSame_407 ?_
              refine lv_icmp_ne (tgt := 532) hx hb dX2_isSame_408 (by decide) (fun z => absurd (hst.f0) z) (fun c_408 => ?_)
              refine lv_aload_n hx hb dX2_isSame_411 rfl (lv_at hl 1 rfl) ?_
              refine MX.callV0 (C := RX1) (T := TX1) (N := 2) (As := []) (rest := []) (w0 := sC cI cL sm q σ n k) (w2 := []) (wB := fun ρ => (sC cI cL sm q σ n k) ++ ((oC ob h h2) ++ ((mC cI cZ h a σ) ++ (mC cI cZ h2 a2 ρ)))) (c_X1_drains l D cI cZ cL ob h a h2 a2 σ ρ_2 ) ⟨hx, hb, hml, hown, hts⟩ q513 b_X1_drains (n := 0) (by decide +kernel) ⟨(Nat.le_of_ble_eq_true rfl), (Nat.le_of_ble_eq_true rfl)⟩ hK hP hD hS hA hE (by rw [List.append_nil]) (fun _ => by rw [List.append_nil]) (ci := 1) rfl rfl rfl hl.1 rfl (Nat.le_of_ble_eq_true rfl) dX2_isSame_412 ⟨by show 40 + 0 ≤ 40; omega, by show 400 + 0 ≤ 400; omega⟩ (fun ρ_3 H locs hP hD hS => ?_)
              have hP : va_P D vwCl ((sC cI cL sm q σ n k) ++ ((oC ob h h2) ++ ((mC cI cZ h a σ) ++ (mC cI cZ h2 a2 ρ_3)))) H := hP
              have hD : va_D A ((sC cI cL sm q σ n k) ++ ((oC ob h h2) ++ ((mC cI cZ h a σ) ++ (mC cI cZ h2 a2 ρ_3)))) := hD
              refine W.wide (k := 40) (n := 400) (Nat.le_refl _) (Nat.le_refl _) ?_
              refine lv_aload_n hx hb dX2_isSame_415 rfl (lv_at hl 0 rfl) ?_
              refine s_get hx hb hts hown hK hP (σ := σ) (n := n) (k := k) (q := q) (sm := sm) (w0 := []) (w2 := (oC ob h h2) ++ ((mC cI cZ h a σ) ++ (mC cI cZ h2 a2 ρ_3))) rfl 1 (by decide) q435 (v := .ref q.1.2) rfl dX2_isSame_416 ?_
              refine s_lnD hx hb hK hP (σ := σ) (n := n) (k := k) (q := q) (sm := sm) (w0 := []) (w2 := (oC ob h h2) ++ ((mC cI cZ h a σ) ++ (mC cI cZ h2 a2 ρ_3))) rfl dX2_isSame_419 ?_
              refine lv_icmp_ne (tgt := 532) hx hb dX2_isSame_420 (by decide) (fun z => absurd (hst.f1) z) (fun c_420 => ?_)
              refine lv_aload_n hx hb dX2_isSame_423 rfl (lv_at hl 1 rfl) ?_
              refine MX.callV0 (C := RX1) (T := TX1) (N := 2) (As := []) (rest := []) (w0 := sC cI cL sm q σ n k) (w2 := []) (wB := fun ρ => (sC cI cL sm q σ n k) ++ ((oC ob h h2) ++ ((mC cI cZ h a σ) ++ (mC cI cZ h2 a2 ρ)))) (c_X1_rain l D cI cZ cL ob h a h2 a2 σ ρ_3 ) ⟨hx, hb, hml, hown, hts⟩ q514 b_X1_rain (n := 0) (by decide +kernel) ⟨(Nat.le_of_ble_eq_true rfl), (Nat.le_of_ble_eq_true rfl)⟩ hK hP hD hS hA hE (by rw [List.append_nil]) (fun _ => by rw [List.append_nil]) (ci := 1) rfl rfl rfl hl.1 rfl (Nat.le_of_ble_eq_true rfl) dX2_isSame_424 ⟨by show 40 + 0 ≤ 40; omega, by show 400 + 0 ≤ 400; omega⟩ (fun ρ_4 H locs hP hD hS => ?_)
              have hP : va_P D vwCl ((sC cI cL sm q σ n k) ++ ((oC ob h h2) ++ ((mC cI cZ h a σ) ++ (mC cI cZ h2 a2 ρ_4)))) H := hP
              have hD : va_D A ((sC cI cL sm q σ n k) ++ ((oC ob h h2) ++ ((mC cI cZ h a σ) ++ (mC cI cZ h2 a2 ρ_4)))) := hD
              refine W.wide (k := 40) (n := 400) (Nat.le_refl _) (Nat.le_refl _) ?_
              refine lv_aload_n hx hb dX2_isSame_427 rfl (lv_at hl 0 rfl) ?_
              refine s_get hx hb hts hown hK hP (σ := σ) (n := n) (k := k) (q := q) (sm := sm) (w0 := []) (w2 := (oC ob h h2) ++ ((mC cI cZ h a σ) ++ (mC cI cZ h2 a2 ρ_4))) rfl 2 (by decide) q437 (v := .int (σ 11 2)) rfl dX2_isSame_428 ?_
              refine lv_icmp_ne (tgt := 532) hx hb dX2_isSame_431 (by decide) (fun z => absurd (rfl) z) (fun c_431 => ?_)
              refine lv_aload_n hx hb dX2_isSame_434 rfl (lv_at hl 1 rfl) ?_
              refine MX.callV0 (C := RX1) (T := TX1) (N := 2) (As := []) (rest := []) (w0 := sC cI cL sm q σ n k) (w2 := []) (wB := fun ρ => (sC cI cL sm q σ n k) ++ ((oC ob h h2) ++ ((mC cI cZ h a σ) ++ (mC cI cZ h2 a2 ρ)))) (c_X1_water l D cI cZ cL ob h a h2 a2 σ ρ_4 hst) ⟨hx, hb, hml, hown, hts⟩ q515 b_X1_water (n := 0) (by decide +kernel) ⟨(Nat.le_of_ble_eq_true rfl), (Nat.le_of_ble_eq_true rfl)⟩ hK hP hD hS hA hE (by rw [List.append_nil]) (fun _ => by rw [List.append_nil]) (ci := 1) rfl rfl rfl hl.1 rfl (Nat.le_of_ble_eq_true rfl) dX2_isSame_435 ⟨by show 40 + 0 ≤ 40; omega, by show 400 + 0 ≤ 400; omega⟩ (fun ρ_5 H locs hP hD hS => ?_)
              have hP : va_P D vwCl ((sC cI cL sm q σ n k) ++ ((oC ob h h2) ++ ((mC cI cZ h a σ) ++ (mC cI cZ h2 a2 ρ_5)))) H := hP
              have hD : va_D A ((sC cI cL sm q σ n k) ++ ((oC ob h h2) ++ ((mC cI cZ h a σ) ++ (mC cI cZ h2 a2 ρ_5)))) := hD
              refine W.wide (k := 40) (n := 400) (Nat.le_refl _) (Nat.le_refl _) ?_
              refine lv_iload_n hx hb dX2_isSame_438 rfl (lv_at hl 2 rfl) ?_
              refine lv_icmp_ne (tgt := 532) hx hb dX2_isSame_439 (by decide) (fun z => absurd (by unfold waterS; rw [hst.eF]) z) (fun c_439 => ?_)
              refine lv_aload_n hx hb dX2_isSame_442 rfl (lv_at hl 1 rfl) ?_
              refine MX.callV0 (C := RX1) (T := TX1) (N := 2) (As := []) (rest := []) (w0 := sC cI cL sm q σ n k) (w2 := []) (wB := fun ρ => (sC cI cL sm q σ n k) ++ ((oC ob h h2) ++ ((mC cI cZ h a σ) ++ (mC cI cZ h2 a2 ρ)))) (c_X1_drained l D cI cZ cL ob h a h2 a2 σ ρ_5 ) ⟨hx, hb, hml, hown, hts⟩ q516 b_X1_drained (n := 0) (by decide +kernel) ⟨(Nat.le_of_ble_eq_true rfl), (Nat.le_of_ble_eq_true rfl)⟩ hK hP hD hS hA hE (by rw [List.append_nil]) (fun _ => by rw [List.append_nil]) (ci := 1) rfl rfl rfl hl.1 rfl (Nat.le_of_ble_eq_true rfl) dX2_isSame_443 ⟨by show 40 + 0 ≤ 40; omega, by show 400 + 0 ≤ 400; omega⟩ (fun ρ_6 H locs hP hD hS => ?_)
              have hP : va_P D vwCl ((sC cI cL sm q σ n k) ++ ((oC ob h h2) ++ ((mC cI cZ h a σ) ++ (mC cI cZ h2 a2 ρ_6)))) H := hP
              have hD : va_D A ((sC cI cL sm q σ n k) ++ ((oC ob h h2) ++ ((mC cI cZ h a σ) ++ (mC cI cZ h2 a2 ρ_6)))) := hD
              refine W.wide (k := 40) (n := 400) (Nat.le_refl _) (Nat.le_refl _) ?_
              refine lv_aload_n hx hb dX2_isSame_446 rfl (lv_at hl 0 rfl) ?_
              refine s_get hx hb hts hown hK hP (σ := σ) (n := n) (k := k) (q := q) (sm := sm) (w0 := []) (w2 := (oC ob h h2) ++ ((mC cI cZ h a σ) ++ (mC cI cZ h2 a2 ρ_6))) rfl 4 (by decide) q440 (v := .int (σ 11 3)) rfl dX2_isSame_447 ?_
              refine lv_icmp_ne (tgt := 532) hx hb dX2_isSame_450 (by decide) (fun z => absurd (rfl) z) (fun c_450 => ?_)
              refine lv_aload_n hx hb dX2_isSame_453 rfl (lv_at hl 1 rfl) ?_
              refine MX.callV0 (C := RX1) (T := TX1) (N := 2) (As := []) (rest := []) (w0 := sC cI cL sm q σ n k) (w2 := []) (wB := fun ρ => (sC cI cL sm q σ n k) ++ ((oC ob h h2) ++ ((mC cI cZ h a σ) ++ (mC cI cZ h2 a2 ρ)))) (c_X1_wetFields l D cI cZ cL ob h a h2 a2 σ ρ_6 hst) ⟨hx, hb, hml, hown, hts⟩ q517 b_X1_wetFields (n := 0) (by decide +kernel) ⟨(Nat.le_of_ble_eq_true rfl), (Nat.le_of_ble_eq_true rfl)⟩ hK hP hD hS hA hE (by rw [List.append_nil]) (fun _ => by rw [List.append_nil]) (ci := 1) rfl rfl rfl hl.1 rfl (Nat.le_of_ble_eq_true rfl) dX2_isSame_454 ⟨by show 40 + 0 ≤ 40; omega, by show 400 + 0 ≤ 400; omega⟩ (fun ρ_7 H locs hP hD hS => ?_)
              have hP : va_P D vwCl ((sC cI cL sm q σ n k) ++ ((oC ob h h2) ++ ((mC cI cZ h a σ) ++ (mC cI cZ h2 a2 ρ_7)))) H := hP
              have hD : va_D A ((sC cI cL sm q σ n k) ++ ((oC ob h h2) ++ ((mC cI cZ h a σ) ++ (mC cI cZ h2 a2 ρ_7)))) := hD
              refine W.wide (k := 40) (n := 400) (Nat.le_refl _) (Nat.le_refl _) ?_
              refine lv_iload_n hx hb dX2_isSame_457 rfl (lv_at hl 3 rfl) ?_
              refine lv_icmp_ne (tgt := 532) hx hb dX2_isSame_458 (by decide) (fun z => absurd (by unfold wetN; rw [hst.eF]) z) (fun c_458 => ?_)
              refine lv_aload_n hx hb dX2_isSame_461 rfl (lv_at hl 1 rfl) ?_
              refine MX.callV0 (C := RX1) (T := TX1) (N := 2) (As := []) (rest := []) (w0 := sC cI cL sm q σ n k) (w2 := []) (wB := fun ρ => (sC cI cL sm q σ n k) ++ ((oC ob h h2) ++ ((mC cI cZ h a σ) ++ (mC cI cZ h2 a2 ρ)))) (c_X1_ruinedFields l D cI cZ cL ob h a h2 a2 σ ρ_7 hst) ⟨hx, hb, hml, hown, hts⟩ q518 b_X1_ruinedFields (n := 0) (by decide +kernel) ⟨(Nat.le_of_ble_eq_true rfl), (Nat.le_of_ble_eq_true rfl)⟩ hK hP hD hS hA hE (by rw [List.append_nil]) (fun _ => by rw [List.append_nil]) (ci := 1) rfl rfl rfl hl.1 rfl (Nat.le_of_ble_eq_true rfl) dX2_isSame_462 ⟨by show 40 + 0 ≤ 40; omega, by show 400 + 0 ≤ 400; omega⟩ (fun ρ_8 H locs hP hD hS => ?_)
              have hP : va_P D vwCl ((sC cI cL sm q σ n k) ++ ((oC ob h h2) ++ ((mC cI cZ h a σ) ++ (mC cI cZ h2 a2 ρ_8)))) H := hP
              have hD : va_D A ((sC cI cL sm q σ n k) ++ ((oC ob h h2) ++ ((mC cI cZ h a σ) ++ (mC cI cZ h2 a2 ρ_8)))) := hD
              refine W.wide (k := 40) (n := 400) (Nat.le_refl _) (Nat.le_refl _) ?_
              refine lv_iload hx hb dX2_isSame_465 (lv_at hl 4 rfl) ?_
              refine lv_icmp_ne (tgt := 532) hx hb dX2_isSame_467 (by decide) (fun z => absurd (by unfold ruinN; rw [hst.eF]) z) (fun c_467 => ?_)
              refine lv_aload_n hx hb dX2_isSame_470 rfl (lv_at hl 1 rfl) ?_
              refine MX.callV0 (C := RX1) (T := TX1) (N := 2) (As := []) (rest := []) (w0 := sC cI cL sm q σ n k) (w2 := []) (wB := fun ρ => (sC cI cL sm q σ n k) ++ ((oC ob h h2) ++ ((mC cI cZ h a σ) ++ (mC cI cZ h2 a2 ρ)))) (c_X1_loss l D cI cZ cL ob h a h2 a2 σ ρ_8 hst) ⟨hx, hb, hml, hown, hts⟩ q522 b_X1_loss (n := 0) (by decide +kernel) ⟨(Nat.le_of_ble_eq_true rfl), (Nat.le_of_ble_eq_true rfl)⟩ hK hP hD hS hA hE (by rw [List.append_nil]) (fun _ => by rw [List.append_nil]) (ci := 1) rfl rfl rfl hl.1 rfl (Nat.le_of_ble_eq_true rfl) dX2_isSame_471 ⟨by show 40 + 0 ≤ 40; omega, by show 400 + 0 ≤ 400; omega⟩ (fun ρ_9 H locs hP hD hS => ?_)
              have hP : va_P D vwCl ((sC cI cL sm q σ n k) ++ ((oC ob h h2) ++ ((mC cI cZ h a σ) ++ (mC cI cZ h2 a2 ρ_9)))) H := hP
              have hD : va_D A ((sC cI cL sm q σ n k) ++ ((oC ob h h2) ++ ((mC cI cZ h a σ) ++ (mC cI cZ h2 a2 ρ_9)))) := hD
              refine W.wide (k := 40) (n := 400) (Nat.le_refl _) (Nat.le_refl _) ?_
              refine lv_aload_n hx hb dX2_isSame_474 rfl (lv_at hl 0 rfl) ?_
              refine MC.callV0 (C := RX2) (T := TX2) (N := 5) (As := []) (rest := [.int (lost σ)]) (w0 := []) (w2 := (oC ob h h2) ++ ((mC cI cZ h a σ) ++ (mC cI cZ h2 a2 ρ_9))) (wB := (sC cI cL sm q σ n k) ++ ((oC ob h h2) ++ ((mC cI cZ h a σ) ++ (mC cI cZ h2 a2 ρ_9)))) (c_X2_loss l D cI cZ cL sm q σ hst hB) ⟨hx, hb, hml, hown, hts⟩ q486 b_X2_loss (n := 0) (by decide +kernel) ⟨(Nat.le_of_ble_eq_true rfl), (Nat.le_of_ble_eq_true rfl)⟩ hK hP hD hS hA rfl rfl (ci := 2) rfl rfl rfl hl.1 rfl (Nat.le_of_ble_eq_true rfl) dX2_isSame_475 ⟨by show 40 + 0 ≤ 40; omega, by show 400 + 0 ≤ 400; omega⟩ (fun H locs hP hD hS => ?_)
              refine W.wide (k := 40) (n := 400) (Nat.le_refl _) (Nat.le_refl _) ?_
              refine lv_icmp_ne (tgt := 532) hx hb dX2_isSame_478 (by decide) (fun z => absurd (rfl) z) (fun c_478 => ?_)
              refine lv_aload_n hx hb dX2_isSame_481 rfl (lv_at hl 1 rfl) ?_
              refine MX.callV0 (C := RX1) (T := TX1) (N := 2) (As := []) (rest := []) (w0 := sC cI cL sm q σ n k) (w2 := []) (wB := fun ρ => (sC cI cL sm q σ n k) ++ ((oC ob h h2) ++ ((mC cI cZ h a σ) ++ (mC cI cZ h2 a2 ρ)))) (c_X1_highest l D cI cZ cL ob h a h2 a2 σ ρ_9 hst) ⟨hx, hb, hml, hown, hts⟩ q523 b_X1_highest (n := 0) (by decide +kernel) ⟨(Nat.le_of_ble_eq_true rfl), (Nat.le_of_ble_eq_true rfl)⟩ hK hP hD hS hA hE (by rw [List.append_nil]) (fun _ => by rw [List.append_nil]) (ci := 1) rfl rfl rfl hl.1 rfl (Nat.le_of_ble_eq_true rfl) dX2_isSame_482 ⟨by show 40 + 0 ≤ 40; omega, by show 400 + 0 ≤ 400; omega⟩ (fun ρ_10 H locs hP hD hS => ?_)
              have hP : va_P D vwCl ((sC cI cL sm q σ n k) ++ ((oC ob h h2) ++ ((mC cI cZ h a σ) ++ (mC cI cZ h2 a2 ρ_10)))) H := hP
              have hD : va_D A ((sC cI cL sm q σ n k) ++ ((oC ob h h2) ++ ((mC cI cZ h a σ) ++ (mC cI cZ h2 a2 ρ_10)))) := hD
              refine W.wide (k := 40) (n := 400) (Nat.le_refl _) (Nat.le_refl _) ?_
              refine lv_iload hx hb dX2_isSame_485 (lv_at hl 5 rfl) ?_
              refine lv_icmp_ne (tgt := 532) hx hb dX2_isSame_487 (by decide) (fun z => absurd (by rw [hst.eF]) z) (fun c_487 => ?_)
              refine lv_aload_n hx hb dX2_isSame_490 rfl (lv_at hl 1 rfl) ?_
              refine MX.callV0 (C := RX1) (T := TX1) (N := 2) (As := []) (rest := []) (w0 := sC cI cL sm q σ n k) (w2 := []) (wB := fun ρ => (sC cI cL sm q σ n k) ++ ((oC ob h h2) ++ ((mC cI cZ h a σ) ++ (mC cI cZ h2 a2 ρ)))) (c_X1_busiest l D cI cZ cL ob h a h2 a2 σ ρ_10 hst) ⟨hx, hb, hml, hown, hts⟩ q524 b_X1_busiest (n := 0) (by decide +kernel) ⟨(Nat.le_of_ble_eq_true rfl), (Nat.le_of_ble_eq_true rfl)⟩ hK hP hD hS hA hE (by rw [List.append_nil]) (fun _ => by rw [List.append_nil]) (ci := 1) rfl rfl rfl hl.1 rfl (Nat.le_of_ble_eq_true rfl) dX2_isSame_491 ⟨by show 40 + 0 ≤ 40; omega, by show 400 + 0 ≤ 400; omega⟩ (fun ρ_11 H locs hP hD hS => ?_)
              have hP : va_P D vwCl ((sC cI cL sm q σ n k) ++ ((oC ob h h2) ++ ((mC cI cZ h a σ) ++ (mC cI cZ h2 a2 ρ_11)))) H := hP
              have hD : va_D A ((sC cI cL sm q σ n k) ++ ((oC ob h h2) ++ ((mC cI cZ h a σ) ++ (mC cI cZ h2 a2 ρ_11)))) := hD
              refine W.wide (k := 40) (n := 400) (Nat.le_refl _) (Nat.le_refl _) ?_
              refine lv_iload hx hb dX2_isSame_494 (lv_at hl 6 rfl) ?_
              refine lv_icmp_ne (tgt := 532) hx hb dX2_isSame_496 (by decide) (fun z => absurd (by rw [hst.eD]) z) (fun c_496 => ?_)
              refine lv_aload_n hx hb dX2_isSame_499 rfl (lv_at hl 1 rfl) ?_
              refine MX.callV0 (C := RX1) (T := TX1) (N := 2) (As := []) (rest := []) (w0 := sC cI cL sm q σ n k) (w2 := []) (wB := fun ρ => (sC cI cL sm q σ n k) ++ ((oC ob h h2) ++ ((mC cI cZ h a σ) ++ (mC cI cZ h2 a2 ρ)))) (c_X1_meanWater l D cI cZ cL ob h a h2 a2 σ ρ_11 hst) ⟨hx, hb, hml, hown, hts⟩ q525 b_X1_meanWater (n := 0) (by decide +kernel) ⟨(Nat.le_of_ble_eq_true rfl), (Nat.le_of_ble_eq_true rfl)⟩ hK hP hD hS hA hE (by rw [List.append_nil]) (fun _ => by rw [List.append_nil]) (ci := 1) rfl rfl rfl hl.1 rfl (Nat.le_of_ble_eq_true rfl) dX2_isSame_500 ⟨by show 40 + 0 ≤ 40; omega, by show 400 + 0 ≤ 400; omega⟩ (fun ρ_12 H locs hP hD hS => ?_)
              have hP : va_P D vwCl ((sC cI cL sm q σ n k) ++ ((oC ob h h2) ++ ((mC cI cZ h a σ) ++ (mC cI cZ h2 a2 ρ_12)))) H := hP
              have hD : va_D A ((sC cI cL sm q σ n k) ++ ((oC ob h h2) ++ ((mC cI cZ h a σ) ++ (mC cI cZ h2 a2 ρ_12)))) := hD
              refine W.wide (k := 40) (n := 400) (Nat.le_refl _) (Nat.le_refl _) ?_
              refine lv_aload_n hx hb dX2_isSame_503 rfl (lv_at hl 0 rfl) ?_
              refine s_get hx hb hts hown hK hP (σ := σ) (n := n) (k := k) (q := q) (sm := sm) (w0 := []) (w2 := (oC ob h h2) ++ ((mC cI cZ h a σ) ++ (mC cI cZ h2 a2 ρ_12))) rfl 0 (by decide) q433 (v := .ref q.1.1) rfl dX2_isSame_504 ?_
              refine s_lnF hx hb hK hP (σ := σ) (n := n) (k := k) (q := q) (sm := sm) (w0 := []) (w2 := (oC ob h h2) ++ ((mC cI cZ h a σ) ++ (mC cI cZ h2 a2 ρ_12))) rfl dX2_isSame_507 ?_
              refine lv_if_ne (tgt := 515) hx hb dX2_isSame_508 (by decide) (fun c_508 => ?_) (fun c_508 => ?_)
              · have hc_508 : ¬ n = 0 := fun z => c_508 ((nI_eq (a := n) (b := 0) (by omega) (by omega)).mpr z)
                refine lv_iload_n hx hb dX2_isSame_515 rfl (lv_at hl 2 rfl) ?_
                refine lv_i2d hx hb dX2_isSame_516 ?_
                refine lv_aload_n hx hb dX2_isSame_517 rfl (lv_at hl 0 rfl) ?_
                refine s_get hx hb hts hown hK hP (σ := σ) (n := n) (k := k) (q := q) (sm := sm) (w0 := []) (w2 := (oC ob h h2) ++ ((mC cI cZ h a σ) ++ (mC cI cZ h2 a2 ρ_12))) rfl 0 (by decide) q433 (v := .ref q.1.1) rfl dX2_isSame_518 ?_
                refine s_lnF hx hb hK hP (σ := σ) (n := n) (k := k) (q := q) (sm := sm) (w0 := []) (w2 := (oC ob h h2) ++ ((mC cI cZ h a σ) ++ (mC cI cZ h2 a2 ρ_12))) rfl dX2_isSame_521 ?_
                refine lv_i2d hx hb dX2_isSame_522 ?_
                refine lv_ddiv hx hb dX2_isSame_523 (mean_num _ c_508) ?_
                refine lv_dcmp hx hb dX2_isSame_524 ?_
                refine lv_if_ne (tgt := 532) hx hb dX2_isSame_525 (by decide) (fun z => absurd (mean_1 hst c_508) z) (fun c_525 => ?_)
                refine lv_iconst (v := 1) hx hb dX2_isSame_528 (by decide) ?_
                refine lv_goto (tgt := 533) hx hb dX2_isSame_529 (by decide) ?_
                subst hQ
                exact yz ρ_12 hx hb hr hlocks hK hP hD hS dX2_isSame_533 (Or.inr rfl) rfl rfl
              · have hc_508 : n = 0 := (nI_eq (a := n) (b := 0) (by omega) (by omega)).mp c_508
                refine lv_dconst0 hx hb dX2_isSame_511 ?_
                refine lv_goto (tgt := 524) hx hb dX2_isSame_512 (by decide) ?_
                refine lv_dcmp hx hb dX2_isSame_524 ?_
                refine lv_if_ne (tgt := 532) hx hb dX2_isSame_525 (by decide) (fun z => absurd (mean_0 hst c_508) z) (fun c_525 => ?_)
                refine lv_iconst (v := 1) hx hb dX2_isSame_528 (by decide) ?_
                refine lv_goto (tgt := 533) hx hb dX2_isSame_529 (by decide) ?_
                subst hQ
                exact yz ρ_12 hx hb hr hlocks hK hP hD hS dX2_isSame_533 (Or.inr rfl) rfl rfl
            · have hc_271 : u < k := Nat.not_le.mp (fun z => c_271 ((nI_leI (a := k) (b := u) (by omega) (by omega)).mpr z))
              refine lv_aload_n hx hb dX2_isSame_274 rfl (lv_at hl 0 rfl) ?_
              refine s_get hx hb hts hown hK hP (σ := σ) (n := n) (k := k) (q := q) (sm := sm) (w0 := []) (w2 := (oC ob h h2) ++ ((mC cI cZ h a σ) ++ (mC cI cZ h2 a2 ρ))) rfl 1 (by decide) q435 (v := .ref q.1.2) rfl dX2_isSame_275 ?_
              refine lv_iload hx hb dX2_isSame_278 (lv_at hl 7 rfl) ?_
              refine s_alD hx hb hK hP (σ := σ) (n := n) (k := k) (q := q) (sm := sm) (w0 := []) (w2 := (oC ob h h2) ++ ((mC cI cZ h a σ) ++ (mC cI cZ h2 a2 ρ))) rfl u (rfl) (by omega) (by omega) dX2_isSame_280 ?_
              refine lv_astore (lv' := [(8, .ref (q.2.2 u)), (0, .ref sm), (1, .ref ob), (2, .int (sumI (fun f => σ 2 f) n)), (3, .int (sumI (fun f => isW σ f) n)), (4, .int (sumI (fun f => if σ 4 f = 0 then (0 : Int32) else 1) n)), (5, .int (amax (fun q => σ 0 q + σ 2 q) n)), (6, .int (amax (fun q => σ 8 q) u)), (7, .int (nI u))]) hx hb dX2_isSame_281 hl (by decide) rfl (fun ls hl => ?_)
              rcases amax_or (fun q => σ 8 q) u with ⟨hm, him⟩ | ⟨jm, hjm, hm⟩
              · rw [hm] at hl
                refine lv_iload hx hb dX2_isSame_283 (lv_at hl 7 rfl) ?_
                refine lv_if_lt (tgt := 304) hx hb dX2_isSame_285 (by decide) (fun c_285 => ?_) (fun z => absurd (by decide) z)
                refine lv_iload hx hb dX2_isSame_304 (lv_at hl 8 rfl) ?_
                refine lv_istore (lv' := [(6, .int (nI u)), (8, .ref (q.2.2 u)), (0, .ref sm), (1, .ref ob), (2, .int (sumI (fun f => σ 2 f) n)), (3, .int (sumI (fun f => isW σ f) n)), (4, .int (sumI (fun f => if σ 4 f = 0 then (0 : Int32) else 1) n)), (5, .int (amax (fun q => σ 0 q + σ 2 q) n)), (7, .int (nI u))]) hx hb dX2_isSame_306 hl (by decide) rfl (fun ls hl => ?_)
                have e6 : (nI u) = amax (fun q => σ 8 q) (u + 1) := amax_c1 hm
                have hl : lv_has ls 14 [(6, .int (amax (fun q => σ 8 q) (u + 1))), (8, .ref (q.2.2 u)), (0, .ref sm), (1, .ref ob), (2, .int (sumI (fun f => σ 2 f) n)), (3, .int (sumI (fun f => isW σ f) n)), (4, .int (sumI (fun f => if σ 4 f = 0 then (0 : Int32) else 1) n)), (5, .int (amax (fun q => σ 0 q + σ 2 q) n)), (7, .int (nI u))] := by rw [← e6]; exact hl
                refine lv_aload_n hx hb dX2_isSame_308 rfl (lv_at hl 3 rfl) ?_
                refine lv_iload hx hb dX2_isSame_309 (lv_at hl 8 rfl) ?_
                refine MX.callV0 (C := RX1) (T := TX1) (N := 2) (As := [.int (nI u)]) (rest := []) (w0 := sC cI cL sm q σ n k) (w2 := []) (wB := fun ρ => (sC cI cL sm q σ n k) ++ ((oC ob h h2) ++ ((mC cI cZ h a σ) ++ (mC cI cZ h2 a2 ρ)))) (c_X1_isPump l D cI cZ cL ob h a h2 a2 σ ρ hst hB u (by omega)) ⟨hx, hb, hml, hown, hts⟩ q504 b_X1_isPump (n := 1) (by decide +kernel) ⟨(Nat.le_of_ble_eq_true rfl), (Nat.le_of_ble_eq_true rfl)⟩ hK hP hD hS hA hE (by rw [List.append_nil]) (fun _ => by rw [List.append_nil]) (ci := 1) rfl rfl rfl hl.1 rfl (Nat.le_of_ble_eq_true rfl) dX2_isSame_311 ⟨by show 40 + 0 ≤ 40; omega, by show 400 + 0 ≤ 400; omega⟩ (fun ρ_13 H locs hP hD hS => ?_)
                have hP : va_P D vwCl ((sC cI cL sm q σ n k) ++ ((oC ob h h2) ++ ((mC cI cZ h a σ) ++ (mC cI cZ h2 a2 ρ_13)))) H := hP
                have hD : va_D A ((sC cI cL sm q σ n k) ++ ((oC ob h h2) ++ ((mC cI cZ h a σ) ++ (mC cI cZ h2 a2 ρ_13)))) := hD
                refine W.wide (k := 40) (n := 400) (Nat.le_refl _) (Nat.le_refl _) ?_
                refine lv_aload hx hb dX2_isSame_314 (lv_at hl 1 rfl) ?_
                refine lv_iconst (v := 3) hx hb dX2_isSame_316 (by decide) ?_
                refine s_ldD hx hb hK hP (σ := σ) (n := n) (k := k) (q := q) (sm := sm) (w0 := []) (w2 := (oC ob h h2) ++ ((mC cI cZ h a σ) ++ (mC cI cZ h2 a2 ρ_13))) rfl u (by omega) 3 rfl (by decide) (v := σ 9 u) rfl dX2_isSame_317 ?_
                refine lv_iconst (v := 1) hx hb dX2_isSame_318 (by decide) ?_
                refine lv_icmp_ne (tgt := 326) hx hb dX2_isSame_319 (by decide) (fun c_319 => ?_) (fun c_319 => ?_)
                · refine lv_iconst (v := 0) hx hb dX2_isSame_326 (by decide) ?_
                  refine lv_icmp_ne (tgt := 380) hx hb dX2_isSame_327 (by decide) (fun z => absurd (b01_0 (hB.2.2.2.2.2.1 u (by omega)) c_319) z) (fun c_327 => ?_)
                  refine lv_aload_n hx hb dX2_isSame_330 rfl (lv_at hl 3 rfl) ?_
                  refine lv_iload hx hb dX2_isSame_331 (lv_at hl 8 rfl) ?_
                  refine MX.callV0 (C := RX1) (T := TX1) (N := 2) (As := [.int (nI u)]) (rest := []) (w0 := sC cI cL sm q σ n k) (w2 := []) (wB := fun ρ => (sC cI cL sm q σ n k) ++ ((oC ob h h2) ++ ((mC cI cZ h a σ) ++ (mC cI cZ h2 a2 ρ)))) (c_X1_isOpen l D cI cZ cL ob h a h2 a2 σ ρ_13 hst hB u (by omega)) ⟨hx, hb, hml, hown, hts⟩ q508 b_X1_isOpen (n := 1) (by decide +kernel) ⟨(Nat.le_of_ble_eq_true rfl), (Nat.le_of_ble_eq_true rfl)⟩ hK hP hD hS hA hE (by rw [List.append_nil]) (fun _ => by rw [List.append_nil]) (ci := 1) rfl rfl rfl hl.1 rfl (Nat.le_of_ble_eq_true rfl) dX2_isSame_333 ⟨by show 40 + 0 ≤ 40; omega, by show 400 + 0 ≤ 400; omega⟩ (fun ρ_14 H locs hP hD hS => ?_)
                  have hP : va_P D vwCl ((sC cI cL sm q σ n k) ++ ((oC ob h h2) ++ ((mC cI cZ h a σ) ++ (mC cI cZ h2 a2 ρ_14)))) H := hP
                  have hD : va_D A ((sC cI cL sm q σ n k) ++ ((oC ob h h2) ++ ((mC cI cZ h a σ) ++ (mC cI cZ h2 a2 ρ_14)))) := hD
                  refine W.wide (k := 40) (n := 400) (Nat.le_refl _) (Nat.le_refl _) ?_
                  refine lv_aload hx hb dX2_isSame_336 (lv_at hl 1 rfl) ?_
                  refine lv_iconst (v := 4) hx hb dX2_isSame_338 (by decide) ?_
                  refine s_ldD hx hb hK hP (σ := σ) (n := n) (k := k) (q := q) (sm := sm) (w0 := []) (w2 := (oC ob h h2) ++ ((mC cI cZ h a σ) ++ (mC cI cZ h2 a2 ρ_14))) rfl u (by omega) 4 rfl (by decide) (v := σ 10 u) rfl dX2_isSame_339 ?_
                  refine lv_iconst (v := 1) hx hb dX2_isSame_340 (by decide) ?_
                  refine lv_icmp_ne (tgt := 348) hx hb dX2_isSame_341 (by decide) (fun c_341 => ?_) (fun c_341 => ?_)
                  · refine lv_iconst (v := 0) hx hb dX2_isSame_348 (by decide) ?_
                    refine lv_icmp_ne (tgt := 380) hx hb dX2_isSame_349 (by decide) (fun z => absurd (b01_0 (hB.2.2.2.2.2.2 u (by omega)) c_341) z) (fun c_349 => ?_)
                    refine lv_aload_n hx hb dX2_isSame_352 rfl (lv_at hl 3 rfl) ?_
                    refine lv_iload hx hb dX2_isSame_353 (lv_at hl 8 rfl) ?_
                    refine MX.callV0 (C := RX1) (T := TX1) (N := 2) (As := [.int (nI u)]) (rest := []) (w0 := sC cI cL sm q σ n k) (w2 := []) (wB := fun ρ => (sC cI cL sm q σ n k) ++ ((oC ob h h2) ++ ((mC cI cZ h a σ) ++ (mC cI cZ h2 a2 ρ)))) (c_X1_carriedBy l D cI cZ cL ob h a h2 a2 σ ρ_14 hst u (by omega)) ⟨hx, hb, hml, hown, hts⟩ q509 b_X1_carriedBy (n := 1) (by decide +kernel) ⟨(Nat.le_of_ble_eq_true rfl), (Nat.le_of_ble_eq_true rfl)⟩ hK hP hD hS hA hE (by rw [List.append_nil]) (fun _ => by rw [List.append_nil]) (ci := 1) rfl rfl rfl hl.1 rfl (Nat.le_of_ble_eq_true rfl) dX2_isSame_355 ⟨by show 40 + 0 ≤ 40; omega, by show 400 + 0 ≤ 400; omega⟩ (fun ρ_15 H locs hP hD hS => ?_)
                    have hP : va_P D vwCl ((sC cI cL sm q σ n k) ++ ((oC ob h h2) ++ ((mC cI cZ h a σ) ++ (mC cI cZ h2 a2 ρ_15)))) H := hP
                    have hD : va_D A ((sC cI cL sm q σ n k) ++ ((oC ob h h2) ++ ((mC cI cZ h a σ) ++ (mC cI cZ h2 a2 ρ_15)))) := hD
                    refine W.wide (k := 40) (n := 400) (Nat.le_refl _) (Nat.le_refl _) ?_
                    refine lv_aload hx hb dX2_isSame_358 (lv_at hl 1 rfl) ?_
                    refine lv_iconst (v := 5) hx hb dX2_isSame_360 (by decide) ?_
                    refine s_ldD hx hb hK hP (σ := σ) (n := n) (k := k) (q := q) (sm := sm) (w0 := []) (w2 := (oC ob h h2) ++ ((mC cI cZ h a σ) ++ (mC cI cZ h2 a2 ρ_15))) rfl u (by omega) 5 rfl (by decide) (v := σ 8 u) rfl dX2_isSame_361 ?_
                    refine lv_icmp_ne (tgt := 380) hx hb dX2_isSame_362 (by decide) (fun z => absurd (rfl) z) (fun c_362 => ?_)
                    refine lv_aload_n hx hb dX2_isSame_365 rfl (lv_at hl 3 rfl) ?_
                    refine lv_iload hx hb dX2_isSame_366 (lv_at hl 8 rfl) ?_
                    refine MX.callV0 (C := RX1) (T := TX1) (N := 2) (As := [.int (nI u)]) (rest := []) (w0 := sC cI cL sm q σ n k) (w2 := []) (wB := fun ρ => (sC cI cL sm q σ n k) ++ ((oC ob h h2) ++ ((mC cI cZ h a σ) ++ (mC cI cZ h2 a2 ρ)))) (c_X1_wouldCarry l D cI cZ cL ob h a h2 a2 σ ρ_15 hst u (by omega)) ⟨hx, hb, hml, hown, hts⟩ q510 b_X1_wouldCarry (n := 1) (by decide +kernel) ⟨(Nat.le_of_ble_eq_true rfl), (Nat.le_of_ble_eq_true rfl)⟩ hK hP hD hS hA hE (by rw [List.append_nil]) (fun _ => by rw [List.append_nil]) (ci := 1) rfl rfl rfl hl.1 rfl (Nat.le_of_ble_eq_true rfl) dX2_isSame_368 ⟨by show 40 + 0 ≤ 40; omega, by show 400 + 0 ≤ 400; omega⟩ (fun ρ_16 H locs hP hD hS => ?_)
                    have hP : va_P D vwCl ((sC cI cL sm q σ n k) ++ ((oC ob h h2) ++ ((mC cI cZ h a σ) ++ (mC cI cZ h2 a2 ρ_16)))) H := hP
                    have hD : va_D A ((sC cI cL sm q σ n k) ++ ((oC ob h h2) ++ ((mC cI cZ h a σ) ++ (mC cI cZ h2 a2 ρ_16)))) := hD
                    refine W.wide (k := 40) (n := 400) (Nat.le_refl _) (Nat.le_refl _) ?_
                    refine lv_aload_n hx hb dX2_isSame_371 rfl (lv_at hl 2 rfl) ?_
                    refine lv_aload hx hb dX2_isSame_372 (lv_at hl 1 rfl) ?_
                    refine MC.callV0 (C := RX2) (T := TX2) (N := 5) (As := [.ref (q.2.2 u)]) (rest := [.int (ab (flow σ u))]) (w0 := []) (w2 := (oC ob h h2) ++ ((mC cI cZ h a σ) ++ (mC cI cZ h2 a2 ρ_16))) (wB := (sC cI cL sm q σ n k) ++ ((oC ob h h2) ++ ((mC cI cZ h a σ) ++ (mC cI cZ h2 a2 ρ_16)))) (c_X2_amount l D cI cZ cL sm q σ hst hB hB2 u (by omega)) ⟨hx, hb, hml, hown, hts⟩ q463 b_X2_amount (n := 1) (by decide +kernel) ⟨(Nat.le_of_ble_eq_true rfl), (Nat.le_of_ble_eq_true rfl)⟩ hK hP hD hS hA rfl rfl (ci := 2) rfl rfl rfl hl.1 rfl (Nat.le_of_ble_eq_true rfl) dX2_isSame_374 ⟨by show 40 + 0 ≤ 40; omega, by show 400 + 0 ≤ 400; omega⟩ (fun H locs hP hD hS => ?_)
                    refine W.wide (k := 40) (n := 400) (Nat.le_refl _) (Nat.le_refl _) ?_
                    refine lv_icmp_eq (tgt := 382) hx hb dX2_isSame_377 (by decide) (fun c_377 => ?_) (fun z => absurd (rfl) z)
                    refine lv_iinc (v := (nI (u + 1))) (lv' := [(7, .int (nI (u + 1))), (6, .int (amax (fun q => σ 8 q) (u + 1))), (8, .ref (q.2.2 u)), (0, .ref sm), (1, .ref ob), (2, .int (sumI (fun f => σ 2 f) n)), (3, .int (sumI (fun f => isW σ f) n)), (4, .int (sumI (fun f => if σ 4 f = 0 then (0 : Int32) else 1) n)), (5, .int (amax (fun q => σ 0 q + σ 2 q) n))]) hx hb dX2_isSame_382 hl (k := 8) rfl (nI_add u 1) (by decide) rfl (fun ls hl => ?_)
                    refine lv_goto (tgt := 264) hx hb dX2_isSame_385 (by decide) ?_
                    exact ih_264 (u + 1) ρ_16 (by omega) (by omega) _ _ _ hP hD hS (lv_sub hl [3, 4, 5, 6, 7, 8, 1, 0] rfl)
                  · refine lv_iconst (v := 1) hx hb dX2_isSame_344 (by decide) ?_
                    refine lv_goto (tgt := 349) hx hb dX2_isSame_345 (by decide) ?_
                    refine lv_icmp_ne (tgt := 380) hx hb dX2_isSame_349 (by decide) (fun z => absurd (c_341) z) (fun c_349 => ?_)
                    refine lv_aload_n hx hb dX2_isSame_352 rfl (lv_at hl 3 rfl) ?_
                    refine lv_iload hx hb dX2_isSame_353 (lv_at hl 8 rfl) ?_
                    refine MX.callV0 (C := RX1) (T := TX1) (N := 2) (As := [.int (nI u)]) (rest := []) (w0 := sC cI cL sm q σ n k) (w2 := []) (wB := fun ρ => (sC cI cL sm q σ n k) ++ ((oC ob h h2) ++ ((mC cI cZ h a σ) ++ (mC cI cZ h2 a2 ρ)))) (c_X1_carriedBy l D cI cZ cL ob h a h2 a2 σ ρ_14 hst u (by omega)) ⟨hx, hb, hml, hown, hts⟩ q509 b_X1_carriedBy (n := 1) (by decide +kernel) ⟨(Nat.le_of_ble_eq_true rfl), (Nat.le_of_ble_eq_true rfl)⟩ hK hP hD hS hA hE (by rw [List.append_nil]) (fun _ => by rw [List.append_nil]) (ci := 1) rfl rfl rfl hl.1 rfl (Nat.le_of_ble_eq_true rfl) dX2_isSame_355 ⟨by show 40 + 0 ≤ 40; omega, by show 400 + 0 ≤ 400; omega⟩ (fun ρ_17 H locs hP hD hS => ?_)
                    have hP : va_P D vwCl ((sC cI cL sm q σ n k) ++ ((oC ob h h2) ++ ((mC cI cZ h a σ) ++ (mC cI cZ h2 a2 ρ_17)))) H := hP
                    have hD : va_D A ((sC cI cL sm q σ n k) ++ ((oC ob h h2) ++ ((mC cI cZ h a σ) ++ (mC cI cZ h2 a2 ρ_17)))) := hD
                    refine W.wide (k := 40) (n := 400) (Nat.le_refl _) (Nat.le_refl _) ?_
                    refine lv_aload hx hb dX2_isSame_358 (lv_at hl 1 rfl) ?_
                    refine lv_iconst (v := 5) hx hb dX2_isSame_360 (by decide) ?_
                    refine s_ldD hx hb hK hP (σ := σ) (n := n) (k := k) (q := q) (sm := sm) (w0 := []) (w2 := (oC ob h h2) ++ ((mC cI cZ h a σ) ++ (mC cI cZ h2 a2 ρ_17))) rfl u (by omega) 5 rfl (by decide) (v := σ 8 u) rfl dX2_isSame_361 ?_
                    refine lv_icmp_ne (tgt := 380) hx hb dX2_isSame_362 (by decide) (fun z => absurd (rfl) z) (fun c_362 => ?_)
                    refine lv_aload_n hx hb dX2_isSame_365 rfl (lv_at hl 3 rfl) ?_
                    refine lv_iload hx hb dX2_isSame_366 (lv_at hl 8 rfl) ?_
                    refine MX.callV0 (C := RX1) (T := TX1) (N := 2) (As := [.int (nI u)]) (rest := []) (w0 := sC cI cL sm q σ n k) (w2 := []) (wB := fun ρ => (sC cI cL sm q σ n k) ++ ((oC ob h h2) ++ ((mC cI cZ h a σ) ++ (mC cI cZ h2 a2 ρ)))) (c_X1_wouldCarry l D cI cZ cL ob h a h2 a2 σ ρ_17 hst u (by omega)) ⟨hx, hb, hml, hown, hts⟩ q510 b_X1_wouldCarry (n := 1) (by decide +kernel) ⟨(Nat.le_of_ble_eq_true rfl), (Nat.le_of_ble_eq_true rfl)⟩ hK hP hD hS hA hE (by rw [List.append_nil]) (fun _ => by rw [List.append_nil]) (ci := 1) rfl rfl rfl hl.1 rfl (Nat.le_of_ble_eq_true rfl) dX2_isSame_368 ⟨by show 40 + 0 ≤ 40; omega, by show 400 + 0 ≤ 400; omega⟩ (fun ρ_18 H locs hP hD hS => ?_)
                    have hP : va_P D vwCl ((sC cI cL sm q σ n k) ++ ((oC ob h h2) ++ ((mC cI cZ h a σ) ++ (mC cI cZ h2 a2 ρ_18)))) H := hP
                    have hD : va_D A ((sC cI cL sm q σ n k) ++ ((oC ob h h2) ++ ((mC cI cZ h a σ) ++ (mC cI cZ h2 a2 ρ_18)))) := hD
                    refine W.wide (k := 40) (n := 400) (Nat.le_refl _) (Nat.le_refl _) ?_
                    refine lv_aload_n hx hb dX2_isSame_371 rfl (lv_at hl 2 rfl) ?_
                    refine lv_aload hx hb dX2_isSame_372 (lv_at hl 1 rfl) ?_
                    refine MC.callV0 (C := RX2) (T := TX2) (N := 5) (As := [.ref (q.2.2 u)]) (rest := [.int (ab (flow σ u))]) (w0 := []) (w2 := (oC ob h h2) ++ ((mC cI cZ h a σ) ++ (mC cI cZ h2 a2 ρ_18))) (wB := (sC cI cL sm q σ n k) ++ ((oC ob h h2) ++ ((mC cI cZ h a σ) ++ (mC cI cZ h2 a2 ρ_18)))) (c_X2_amount l D cI cZ cL sm q σ hst hB hB2 u (by omega)) ⟨hx, hb, hml, hown, hts⟩ q463 b_X2_amount (n := 1) (by decide +kernel) ⟨(Nat.le_of_ble_eq_true rfl), (Nat.le_of_ble_eq_true rfl)⟩ hK hP hD hS hA rfl rfl (ci := 2) rfl rfl rfl hl.1 rfl (Nat.le_of_ble_eq_true rfl) dX2_isSame_374 ⟨by show 40 + 0 ≤ 40; omega, by show 400 + 0 ≤ 400; omega⟩ (fun H locs hP hD hS => ?_)
                    refine W.wide (k := 40) (n := 400) (Nat.le_refl _) (Nat.le_refl _) ?_
                    refine lv_icmp_eq (tgt := 382) hx hb dX2_isSame_377 (by decide) (fun c_377 => ?_) (fun z => absurd (rfl) z)
                    refine lv_iinc (v := (nI (u + 1))) (lv' := [(7, .int (nI (u + 1))), (6, .int (amax (fun q => σ 8 q) (u + 1))), (8, .ref (q.2.2 u)), (0, .ref sm), (1, .ref ob), (2, .int (sumI (fun f => σ 2 f) n)), (3, .int (sumI (fun f => isW σ f) n)), (4, .int (sumI (fun f => if σ 4 f = 0 then (0 : Int32) else 1) n)), (5, .int (amax (fun q => σ 0 q + σ 2 q) n))]) hx hb dX2_isSame_382 hl (k := 8) rfl (nI_add u 1) (by decide) rfl (fun ls hl => ?_)
                    refine lv_goto (tgt := 264) hx hb dX2_isSame_385 (by decide) ?_
                    exact ih_264 (u + 1) ρ_18 (by omega) (by omega) _ _ _ hP hD hS (lv_sub hl [3, 4, 5, 6, 7, 8, 1, 0] rfl)
                · refine lv_iconst (v := 1) hx hb dX2_isSame_322 (by decide) ?_
                  refine lv_goto (tgt := 327) hx hb dX2_isSame_323 (by decide) ?_
                  refine lv_icmp_ne (tgt := 380) hx hb dX2_isSame_327 (by decide) (fun z => absurd (c_319) z) (fun c_327 => ?_)
                  refine lv_aload_n hx hb dX2_isSame_330 rfl (lv_at hl 3 rfl) ?_
                  refine lv_iload hx hb dX2_isSame_331 (lv_at hl 8 rfl) ?_
                  refine MX.callV0 (C := RX1) (T := TX1) (N := 2) (As := [.int (nI u)]) (rest := []) (w0 := sC cI cL sm q σ n k) (w2 := []) (wB := fun ρ => (sC cI cL sm q σ n k) ++ ((oC ob h h2) ++ ((mC cI cZ h a σ) ++ (mC cI cZ h2 a2 ρ)))) (c_X1_isOpen l D cI cZ cL ob h a h2 a2 σ ρ_13 hst hB u (by omega)) ⟨hx, hb, hml, hown, hts⟩ q508 b_X1_isOpen (n := 1) (by decide +kernel) ⟨(Nat.le_of_ble_eq_true rfl), (Nat.le_of_ble_eq_true rfl)⟩ hK hP hD hS hA hE (by rw [List.append_nil]) (fun _ => by rw [List.append_nil]) (ci := 1) rfl rfl rfl hl.1 rfl (Nat.le_of_ble_eq_true rfl) dX2_isSame_333 ⟨by show 40 + 0 ≤ 40; omega, by show 400 + 0 ≤ 400; omega⟩ (fun ρ_19 H locs hP hD hS => ?_)
                  have hP : va_P D vwCl ((sC cI cL sm q σ n k) ++ ((oC ob h h2) ++ ((mC cI cZ h a σ) ++ (mC cI cZ h2 a2 ρ_19)))) H := hP
                  have hD : va_D A ((sC cI cL sm q σ n k) ++ ((oC ob h h2) ++ ((mC cI cZ h a σ) ++ (mC cI cZ h2 a2 ρ_19)))) := hD
                  refine W.wide (k := 40) (n := 400) (Nat.le_refl _) (Nat.le_refl _) ?_
                  refine lv_aload hx hb dX2_isSame_336 (lv_at hl 1 rfl) ?_
                  refine lv_iconst (v := 4) hx hb dX2_isSame_338 (by decide) ?_
                  refine s_ldD hx hb hK hP (σ := σ) (n := n) (k := k) (q := q) (sm := sm) (w0 := []) (w2 := (oC ob h h2) ++ ((mC cI cZ h a σ) ++ (mC cI cZ h2 a2 ρ_19))) rfl u (by omega) 4 rfl (by decide) (v := σ 10 u) rfl dX2_isSame_339 ?_
                  refine lv_iconst (v := 1) hx hb dX2_isSame_340 (by decide) ?_
                  refine lv_icmp_ne (tgt := 348) hx hb dX2_isSame_341 (by decide) (fun c_341 => ?_) (fun c_341 => ?_)
                  · refine lv_iconst (v := 0) hx hb dX2_isSame_348 (by decide) ?_
                    refine lv_icmp_ne (tgt := 380) hx hb dX2_isSame_349 (by decide) (fun z => absurd (b01_0 (hB.2.2.2.2.2.2 u (by omega)) c_341) z) (fun c_349 => ?_)
                    refine lv_aload_n hx hb dX2_isSame_352 rfl (lv_at hl 3 rfl) ?_
                    refine lv_iload hx hb dX2_isSame_353 (lv_at hl 8 rfl) ?_
                    refine MX.callV0 (C := RX1) (T := TX1) (N := 2) (As := [.int (nI u)]) (rest := []) (w0 := sC cI cL sm q σ n k) (w2 := []) (wB := fun ρ => (sC cI cL sm q σ n k) ++ ((oC ob h h2) ++ ((mC cI cZ h a σ) ++ (mC cI cZ h2 a2 ρ)))) (c_X1_carriedBy l D cI cZ cL ob h a h2 a2 σ ρ_19 hst u (by omega)) ⟨hx, hb, hml, hown, hts⟩ q509 b_X1_carriedBy (n := 1) (by decide +kernel) ⟨(Nat.le_of_ble_eq_true rfl), (Nat.le_of_ble_eq_true rfl)⟩ hK hP hD hS hA hE (by rw [List.append_nil]) (fun _ => by rw [List.append_nil]) (ci := 1) rfl rfl rfl hl.1 rfl (Nat.le_of_ble_eq_true rfl) dX2_isSame_355 ⟨by show 40 + 0 ≤ 40; omega, by show 400 + 0 ≤ 400; omega⟩ (fun ρ_20 H locs hP hD hS => ?_)
                    have hP : va_P D vwCl ((sC cI cL sm q σ n k) ++ ((oC ob h h2) ++ ((mC cI cZ h a σ) ++ (mC cI cZ h2 a2 ρ_20)))) H := hP
                    have hD : va_D A ((sC cI cL sm q σ n k) ++ ((oC ob h h2) ++ ((mC cI cZ h a σ) ++ (mC cI cZ h2 a2 ρ_20)))) := hD
                    refine W.wide (k := 40) (n := 400) (Nat.le_refl _) (Nat.le_refl _) ?_
                    refine lv_aload hx hb dX2_isSame_358 (lv_at hl 1 rfl) ?_
                    refine lv_iconst (v := 5) hx hb dX2_isSame_360 (by decide) ?_
                    refine s_ldD hx hb hK hP (σ := σ) (n := n) (k := k) (q := q) (sm := sm) (w0 := []) (w2 := (oC ob h h2) ++ ((mC cI cZ h a σ) ++ (mC cI cZ h2 a2 ρ_20))) rfl u (by omega) 5 rfl (by decide) (v := σ 8 u) rfl dX2_isSame_361 ?_
                    refine lv_icmp_ne (tgt := 380) hx hb dX2_isSame_362 (by decide) (fun z => absurd (rfl) z) (fun c_362 => ?_)
                    refine lv_aload_n hx hb dX2_isSame_365 rfl (lv_at hl 3 rfl) ?_
                    refine lv_iload hx hb dX2_isSame_366 (lv_at hl 8 rfl) ?_
                    refine MX.callV0 (C := RX1) (T := TX1) (N := 2) (As := [.int (nI u)]) (rest := []) (w0 := sC cI cL sm q σ n k) (w2 := []) (wB := fun ρ => (sC cI cL sm q σ n k) ++ ((oC ob h h2) ++ ((mC cI cZ h a σ) ++ (mC cI cZ h2 a2 ρ)))) (c_X1_wouldCarry l D cI cZ cL ob h a h2 a2 σ ρ_20 hst u (by omega)) ⟨hx, hb, hml, hown, hts⟩ q510 b_X1_wouldCarry (n := 1) (by decide +kernel) ⟨(Nat.le_of_ble_eq_true rfl), (Nat.le_of_ble_eq_true rfl)⟩ hK hP hD hS hA hE (by rw [List.append_nil]) (fun _ => by rw [List.append_nil]) (ci := 1) rfl rfl rfl hl.1 rfl (Nat.le_of_ble_eq_true rfl) dX2_isSame_368 ⟨by show 40 + 0 ≤ 40; omega, by show 400 + 0 ≤ 400; omega⟩ (fun ρ_21 H locs hP hD hS => ?_)
                    have hP : va_P D vwCl ((sC cI cL sm q σ n k) ++ ((oC ob h h2) ++ ((mC cI cZ h a σ) ++ (mC cI cZ h2 a2 ρ_21)))) H := hP
                    have hD : va_D A ((sC cI cL sm q σ n k) ++ ((oC ob h h2) ++ ((mC cI cZ h a σ) ++ (mC cI cZ h2 a2 ρ_21)))) := hD
                    refine W.wide (k := 40) (n := 400) (Nat.le_refl _) (Nat.le_refl _) ?_
                    refine lv_aload_n hx hb dX2_isSame_371 rfl (lv_at hl 2 rfl) ?_
                    refine lv_aload hx hb dX2_isSame_372 (lv_at hl 1 rfl) ?_
                    refine MC.callV0 (C := RX2) (T := TX2) (N := 5) (As := [.ref (q.2.2 u)]) (rest := [.int (ab (flow σ u))]) (w0 := []) (w2 := (oC ob h h2) ++ ((mC cI cZ h a σ) ++ (mC cI cZ h2 a2 ρ_21))) (wB := (sC cI cL sm q σ n k) ++ ((oC ob h h2) ++ ((mC cI cZ h a σ) ++ (mC cI cZ h2 a2 ρ_21)))) (c_X2_amount l D cI cZ cL sm q σ hst hB hB2 u (by omega)) ⟨hx, hb, hml, hown, hts⟩ q463 b_X2_amount (n := 1) (by decide +kernel) ⟨(Nat.le_of_ble_eq_true rfl), (Nat.le_of_ble_eq_true rfl)⟩ hK hP hD hS hA rfl rfl (ci := 2) rfl rfl rfl hl.1 rfl (Nat.le_of_ble_eq_true rfl) dX2_isSame_374 ⟨by show 40 + 0 ≤ 40; omega, by show 400 + 0 ≤ 400; omega⟩ (fun H locs hP hD hS => ?_)
                    refine W.wide (k := 40) (n := 400) (Nat.le_refl _) (Nat.le_refl _) ?_
                    refine lv_icmp_eq (tgt := 382) hx hb dX2_isSame_377 (by decide) (fun c_377 => ?_) (fun z => absurd (rfl) z)
                    refine lv_iinc (v := (nI (u + 1))) (lv' := [(7, .int (nI (u + 1))), (6, .int (amax (fun q => σ 8 q) (u + 1))), (8, .ref (q.2.2 u)), (0, .ref sm), (1, .ref ob), (2, .int (sumI (fun f => σ 2 f) n)), (3, .int (sumI (fun f => isW σ f) n)), (4, .int (sumI (fun f => if σ 4 f = 0 then (0 : Int32) else 1) n)), (5, .int (amax (fun q => σ 0 q + σ 2 q) n))]) hx hb dX2_isSame_382 hl (k := 8) rfl (nI_add u 1) (by decide) rfl (fun ls hl => ?_)
                    refine lv_goto (tgt := 264) hx hb dX2_isSame_385 (by decide) ?_
                    exact ih_264 (u + 1) ρ_21 (by omega) (by omega) _ _ _ hP hD hS (lv_sub hl [3, 4, 5, 6, 7, 8, 1, 0] rfl)
                  · refine lv_iconst (v := 1) hx hb dX2_isSame_344 (by decide) ?_
                    refine lv_goto (tgt := 349) hx hb dX2_isSame_345 (by decide) ?_
                    refine lv_icmp_ne (tgt := 380) hx hb dX2_isSame_349 (by decide) (fun z => absurd (c_341) z) (fun c_349 => ?_)
                    refine lv_aload_n hx hb dX2_isSame_352 rfl (lv_at hl 3 rfl) ?_
                    refine lv_iload hx hb dX2_isSame_353 (lv_at hl 8 rfl) ?_
                    refine MX.callV0 (C := RX1) (T := TX1) (N := 2) (As := [.int (nI u)]) (rest := []) (w0 := sC cI cL sm q σ n k) (w2 := []) (wB := fun ρ => (sC cI cL sm q σ n k) ++ ((oC ob h h2) ++ ((mC cI cZ h a σ) ++ (mC cI cZ h2 a2 ρ)))) (c_X1_carriedBy l D cI cZ cL ob h a h2 a2 σ ρ_19 hst u (by omega)) ⟨hx, hb, hml, hown, hts⟩ q509 b_X1_carriedBy (n := 1) (by decide +kernel) ⟨(Nat.le_of_ble_eq_true rfl), (Nat.le_of_ble_eq_true rfl)⟩ hK hP hD hS hA hE (by rw [List.append_nil]) (fun _ => by rw [List.append_nil]) (ci := 1) rfl rfl rfl hl.1 rfl (Nat.le_of_ble_eq_true rfl) dX2_isSame_355 ⟨by show 40 + 0 ≤ 40; omega, by show 400 + 0 ≤ 400; omega⟩ (fun ρ_22 H locs hP hD hS => ?_)
                    have hP : va_P D vwCl ((sC cI cL sm q σ n k) ++ ((oC ob h h2) ++ ((mC cI cZ h a σ) ++ (mC cI cZ h2 a2 ρ_22)))) H := hP
                    have hD : va_D A ((sC cI cL sm q σ n k) ++ ((oC ob h h2) ++ ((mC cI cZ h a σ) ++ (mC cI cZ h2 a2 ρ_22)))) := hD
                    refine W.wide (k := 40) (n := 400) (Nat.le_refl _) (Nat.le_refl _) ?_
                    refine lv_aload hx hb dX2_isSame_358 (lv_at hl 1 rfl) ?_
                    refine lv_iconst (v := 5) hx hb dX2_isSame_360 (by decide) ?_
                    refine s_ldD hx hb hK hP (σ := σ) (n := n) (k := k) (q := q) (sm := sm) (w0 := []) (w2 := (oC ob h h2) ++ ((mC cI cZ h a σ) ++ (mC cI cZ h2 a2 ρ_22))) rfl u (by omega) 5 rfl (by decide) (v := σ 8 u) rfl dX2_isSame_361 ?_
                    refine lv_icmp_ne (tgt := 380) hx hb dX2_isSame_362 (by decide) (fun z => absurd (rfl) z) (fun c_362 => ?_)
                    refine lv_aload_n hx hb dX2_isSame_365 rfl (lv_at hl 3 rfl) ?_
                    refine lv_iload hx hb dX2_isSame_366 (lv_at hl 8 rfl) ?_
                    refine MX.callV0 (C := RX1) (T := TX1) (N := 2) (As := [.int (nI u)]) (rest := []) (w0 := sC cI cL sm q σ n k) (w2 := []) (wB := fun ρ => (sC cI cL sm q σ n k) ++ ((oC ob h h2) ++ ((mC cI cZ h a σ) ++ (mC cI cZ h2 a2 ρ)))) (c_X1_wouldCarry l D cI cZ cL ob h a h2 a2 σ ρ_22 hst u (by omega)) ⟨hx, hb, hml, hown, hts⟩ q510 b_X1_wouldCarry (n := 1) (by decide +kernel) ⟨(Nat.le_of_ble_eq_true rfl), (Nat.le_of_ble_eq_true rfl)⟩ hK hP hD hS hA hE (by rw [List.append_nil]) (fun _ => by rw [List.append_nil]) (ci := 1) rfl rfl rfl hl.1 rfl (Nat.le_of_ble_eq_true rfl) dX2_isSame_368 ⟨by show 40 + 0 ≤ 40; omega, by show 400 + 0 ≤ 400; omega⟩ (fun ρ_23 H locs hP hD hS => ?_)
                    have hP : va_P D vwCl ((sC cI cL sm q σ n k) ++ ((oC ob h h2) ++ ((mC cI cZ h a σ) ++ (mC cI cZ h2 a2 ρ_23)))) H := hP
                    have hD : va_D A ((sC cI cL sm q σ n k) ++ ((oC ob h h2) ++ ((mC cI cZ h a σ) ++ (mC cI cZ h2 a2 ρ_23)))) := hD
                    refine W.wide (k := 40) (n := 400) (Nat.le_refl _) (Nat.le_refl _) ?_
                    refine lv_aload_n hx hb dX2_isSame_371 rfl (lv_at hl 2 rfl) ?_
                    refine lv_aload hx hb dX2_isSame_372 (lv_at hl 1 rfl) ?_
                    refine MC.callV0 (C := RX2) (T := TX2) (N := 5) (As := [.ref (q.2.2 u)]) (rest := [.int (ab (flow σ u))]) (w0 := []) (w2 := (oC ob h h2) ++ ((mC cI cZ h a σ) ++ (mC cI cZ h2 a2 ρ_23))) (wB := (sC cI cL sm q σ n k) ++ ((oC ob h h2) ++ ((mC cI cZ h a σ) ++ (mC cI cZ h2 a2 ρ_23)))) (c_X2_amount l D cI cZ cL sm q σ hst hB hB2 u (by omega)) ⟨hx, hb, hml, hown, hts⟩ q463 b_X2_amount (n := 1) (by decide +kernel) ⟨(Nat.le_of_ble_eq_true rfl), (Nat.le_of_ble_eq_true rfl)⟩ hK hP hD hS hA rfl rfl (ci := 2) rfl rfl rfl hl.1 rfl (Nat.le_of_ble_eq_true rfl) dX2_isSame_374 ⟨by show 40 + 0 ≤ 40; omega, by show 400 + 0 ≤ 400; omega⟩ (fun H locs hP hD hS => ?_)
                    refine W.wide (k := 40) (n := 400) (Nat.le_refl _) (Nat.le_refl _) ?_
                    refine lv_icmp_eq (tgt := 382) hx hb dX2_isSame_377 (by decide) (fun c_377 => ?_) (fun z => absurd (rfl) z)
                    refine lv_iinc (v := (nI (u + 1))) (lv' := [(7, .int (nI (u + 1))), (6, .int (amax (fun q => σ 8 q) (u + 1))), (8, .ref (q.2.2 u)), (0, .ref sm), (1, .ref ob), (2, .int (sumI (fun f => σ 2 f) n)), (3, .int (sumI (fun f => isW σ f) n)), (4, .int (sumI (fun f => if σ 4 f = 0 then (0 : Int32) else 1) n)), (5, .int (amax (fun q => σ 0 q + σ 2 q) n))]) hx hb dX2_isSame_382 hl (k := 8) rfl (nI_add u 1) (by decide) rfl (fun ls hl => ?_)
                    refine lv_goto (tgt := 264) hx hb dX2_isSame_385 (by decide) ?_
                    exact ih_264 (u + 1) ρ_23 (by omega) (by omega) _ _ _ hP hD hS (lv_sub hl [3, 4, 5, 6, 7, 8, 1, 0] rfl)
              · rw [hm] at hl
                refine lv_iload hx hb dX2_isSame_283 (lv_at hl 7 rfl) ?_
                refine lv_if_lt (tgt := 304) hx hb dX2_isSame_285 (by decide) (fun z => absurd z (Int32.not_lt.mpr (nI_pos' (by omega)))) (fun c_285 => ?_)
                refine lv_aload hx hb dX2_isSame_288 (lv_at hl 0 rfl) ?_
                refine lv_iconst (v := 5) hx hb dX2_isSame_290 (by decide) ?_
                refine s_ldD hx hb hK hP (σ := σ) (n := n) (k := k) (q := q) (sm := sm) (w0 := []) (w2 := (oC ob h h2) ++ ((mC cI cZ h a σ) ++ (mC cI cZ h2 a2 ρ))) rfl u (by omega) 5 rfl (by decide) (v := σ 8 u) rfl dX2_isSame_291 ?_
                refine lv_aload_n hx hb dX2_isSame_292 rfl (lv_at hl 1 rfl) ?_
                refine s_get hx hb hts hown hK hP (σ := σ) (n := n) (k := k) (q := q) (sm := sm) (w0 := []) (w2 := (oC ob h h2) ++ ((mC cI cZ h a σ) ++ (mC cI cZ h2 a2 ρ))) rfl 1 (by decide) q435 (v := .ref q.1.2) rfl dX2_isSame_293 ?_
                refine lv_iload hx hb dX2_isSame_296 (lv_at hl 7 rfl) ?_
                refine s_alD hx hb hK hP (σ := σ) (n := n) (k := k) (q := q) (sm := sm) (w0 := []) (w2 := (oC ob h h2) ++ ((mC cI cZ h a σ) ++ (mC cI cZ h2 a2 ρ))) rfl jm (rfl) (by omega) (by omega) dX2_isSame_298 ?_
                refine lv_iconst (v := 5) hx hb dX2_isSame_299 (by decide) ?_
                refine s_ldD hx hb hK hP (σ := σ) (n := n) (k := k) (q := q) (sm := sm) (w0 := []) (w2 := (oC ob h h2) ++ ((mC cI cZ h a σ) ++ (mC cI cZ h2 a2 ρ))) rfl jm (by omega) 5 rfl (by decide) (v := σ 8 jm) rfl dX2_isSame_300 ?_
                refine lv_icmp_le (tgt := 308) hx hb dX2_isSame_301 (by decide) (fun c_301 => ?_) (fun c_301 => ?_)
                · have e6 : (nI jm) = amax (fun q => σ 8 q) (u + 1) := amax_c3 (f := (fun q => σ 8 q)) hm (by omega) c_301
                  have hl : lv_has ls 14 [(8, .ref (q.2.2 u)), (0, .ref sm), (1, .ref ob), (2, .int (sumI (fun f => σ 2 f) n)), (3, .int (sumI (fun f => isW σ f) n)), (4, .int (sumI (fun f => if σ 4 f = 0 then (0 : Int32) else 1) n)), (5, .int (amax (fun q => σ 0 q + σ 2 q) n)), (6, .int (amax (fun q => σ 8 q) (u + 1))), (7, .int (nI u))] := by rw [← e6]; exact hl
                  refine lv_aload_n hx hb dX2_isSame_308 rfl (lv_at hl 2 rfl) ?_
                  refine lv_iload hx hb dX2_isSame_309 (lv_at hl 8 rfl) ?_
                  refine MX.callV0 (C := RX1) (T := TX1) (N := 2) (As := [.int (nI u)]) (rest := []) (w0 := sC cI cL sm q σ n k) (w2 := []) (wB := fun ρ => (sC cI cL sm q σ n k) ++ ((oC ob h h2) ++ ((mC cI cZ h a σ) ++ (mC cI cZ h2 a2 ρ)))) (c_X1_isPump l D cI cZ cL ob h a h2 a2 σ ρ hst hB u (by omega)) ⟨hx, hb, hml, hown, hts⟩ q504 b_X1_isPump (n := 1) (by decide +kernel) ⟨(Nat.le_of_ble_eq_true rfl), (Nat.le_of_ble_eq_true rfl)⟩ hK hP hD hS hA hE (by rw [List.append_nil]) (fun _ => by rw [List.append_nil]) (ci := 1) rfl rfl rfl hl.1 rfl (Nat.le_of_ble_eq_true rfl) dX2_isSame_311 ⟨by show 40 + 0 ≤ 40; omega, by show 400 + 0 ≤ 400; omega⟩ (fun ρ_24 H locs hP hD hS => ?_)
                  have hP : va_P D vwCl ((sC cI cL sm q σ n k) ++ ((oC ob h h2) ++ ((mC cI cZ h a σ) ++ (mC cI cZ h2 a2 ρ_24)))) H := hP
                  have hD : va_D A ((sC cI cL sm q σ n k) ++ ((oC ob h h2) ++ ((mC cI cZ h a σ) ++ (mC cI cZ h2 a2 ρ_24)))) := hD
                  refine W.wide (k := 40) (n := 400) (Nat.le_refl _) (Nat.le_refl _) ?_
                  refine lv_aload hx hb dX2_isSame_314 (lv_at hl 0 rfl) ?_
                  refine lv_iconst (v := 3) hx hb dX2_isSame_316 (by decide) ?_
                  refine s_ldD hx hb hK hP (σ := σ) (n := n) (k := k) (q := q) (sm := sm) (w0 := []) (w2 := (oC ob h h2) ++ ((mC cI cZ h a σ) ++ (mC cI cZ h2 a2 ρ_24))) rfl u (by omega) 3 rfl (by decide) (v := σ 9 u) rfl dX2_isSame_317 ?_
                  refine lv_iconst (v := 1) hx hb dX2_isSame_318 (by decide) ?_
                  refine lv_icmp_ne (tgt := 326) hx hb dX2_isSame_319 (by decide) (fun c_319 => ?_) (fun c_319 => ?_)
                  · refine lv_iconst (v := 0) hx hb dX2_isSame_326 (by decide) ?_
                    refine lv_icmp_ne (tgt := 380) hx hb dX2_isSame_327 (by decide) (fun z => absurd (b01_0 (hB.2.2.2.2.2.1 u (by omega)) c_319) z) (fun c_327 => ?_)
                    refine lv_aload_n hx hb dX2_isSame_330 rfl (lv_at hl 2 rfl) ?_
                    refine lv_iload hx hb dX2_isSame_331 (lv_at hl 8 rfl) ?_
                    refine MX.callV0 (C := RX1) (T := TX1) (N := 2) (As := [.int (nI u)]) (rest := []) (w0 := sC cI cL sm q σ n k) (w2 := []) (wB := fun ρ => (sC cI cL sm q σ n k) ++ ((oC ob h h2) ++ ((mC cI cZ h a σ) ++ (mC cI cZ h2 a2 ρ)))) (c_X1_isOpen l D cI cZ cL ob h a h2 a2 σ ρ_24 hst hB u (by omega)) ⟨hx, hb, hml, hown, hts⟩ q508 b_X1_isOpen (n := 1) (by decide +kernel) ⟨(Nat.le_of_ble_eq_true rfl), (Nat.le_of_ble_eq_true rfl)⟩ hK hP hD hS hA hE (by rw [List.append_nil]) (fun _ => by rw [List.append_nil]) (ci := 1) rfl rfl rfl hl.1 rfl (Nat.le_of_ble_eq_true rfl) dX2_isSame_333 ⟨by show 40 + 0 ≤ 40; omega, by show 400 + 0 ≤ 400; omega⟩ (fun ρ_25 H locs hP hD hS => ?_)
                    have hP : va_P D vwCl ((sC cI cL sm q σ n k) ++ ((oC ob h h2) ++ ((mC cI cZ h a σ) ++ (mC cI cZ h2 a2 ρ_25)))) H := hP
                    have hD : va_D A ((sC cI cL sm q σ n k) ++ ((oC ob h h2) ++ ((mC cI cZ h a σ) ++ (mC cI cZ h2 a2 ρ_25)))) := hD
                    refine W.wide (k := 40) (n := 400) (Nat.le_refl _) (Nat.le_refl _) ?_
                    refine lv_aload hx hb dX2_isSame_336 (lv_at hl 0 rfl) ?_
                    refine lv_iconst (v := 4) hx hb dX2_isSame_338 (by decide) ?_
                    refine s_ldD hx hb hK hP (σ := σ) (n := n) (k := k) (q := q) (sm := sm) (w0 := []) (w2 := (oC ob h h2) ++ ((mC cI cZ h a σ) ++ (mC cI cZ h2 a2 ρ_25))) rfl u (by omega) 4 rfl (by decide) (v := σ 10 u) rfl dX2_isSame_339 ?_
                    refine lv_iconst (v := 1) hx hb dX2_isSame_340 (by decide) ?_
                    refine lv_icmp_ne (tgt := 348) hx hb dX2_isSame_341 (by decide) (fun c_341 => ?_) (fun c_341 => ?_)
                    · refine lv_iconst (v := 0) hx hb dX2_isSame_348 (by decide) ?_
                      refine lv_icmp_ne (tgt := 380) hx hb dX2_isSame_349 (by decide) (fun z => absurd (b01_0 (hB.2.2.2.2.2.2 u (by omega)) c_341) z) (fun c_349 => ?_)
                      refine lv_aload_n hx hb dX2_isSame_352 rfl (lv_at hl 2 rfl) ?_
                      refine lv_iload hx hb dX2_isSame_353 (lv_at hl 8 rfl) ?_
                      refine MX.callV0 (C := RX1) (T := TX1) (N := 2) (As := [.int (nI u)]) (rest := []) (w0 := sC cI cL sm q σ n k) (w2 := []) (wB := fun ρ => (sC cI cL sm q σ n k) ++ ((oC ob h h2) ++ ((mC cI cZ h a σ) ++ (mC cI cZ h2 a2 ρ)))) (c_X1_carriedBy l D cI cZ cL ob h a h2 a2 σ ρ_25 hst u (by omega)) ⟨hx, hb, hml, hown, hts⟩ q509 b_X1_carriedBy (n := 1) (by decide +kernel) ⟨(Nat.le_of_ble_eq_true rfl), (Nat.le_of_ble_eq_true rfl)⟩ hK hP hD hS hA hE (by rw [List.append_nil]) (fun _ => by rw [List.append_nil]) (ci := 1) rfl rfl rfl hl.1 rfl (Nat.le_of_ble_eq_true rfl) dX2_isSame_355 ⟨by show 40 + 0 ≤ 40; omega, by show 400 + 0 ≤ 400; omega⟩ (fun ρ_26 H locs hP hD hS => ?_)
                      have hP : va_P D vwCl ((sC cI cL sm q σ n k) ++ ((oC ob h h2) ++ ((mC cI cZ h a σ) ++ (mC cI cZ h2 a2 ρ_26)))) H := hP
                      have hD : va_D A ((sC cI cL sm q σ n k) ++ ((oC ob h h2) ++ ((mC cI cZ h a σ) ++ (mC cI cZ h2 a2 ρ_26)))) := hD
                      refine W.wide (k := 40) (n := 400) (Nat.le_refl _) (Nat.le_refl _) ?_
                      refine lv_aload hx hb dX2_isSame_358 (lv_at hl 0 rfl) ?_
                      refine lv_iconst (v := 5) hx hb dX2_isSame_360 (by decide) ?_
                      refine s_ldD hx hb hK hP (σ := σ) (n := n) (k := k) (q := q) (sm := sm) (w0 := []) (w2 := (oC ob h h2) ++ ((mC cI cZ h a σ) ++ (mC cI cZ h2 a2 ρ_26))) rfl u (by omega) 5 rfl (by decide) (v := σ 8 u) rfl dX2_isSame_361 ?_
                      refine lv_icmp_ne (tgt := 380) hx hb dX2_isSame_362 (by decide) (fun z => absurd (rfl) z) (fun c_362 => ?_)
                      refine lv_aload_n hx hb dX2_isSame_365 rfl (lv_at hl 2 rfl) ?_
                      refine lv_iload hx hb dX2_isSame_366 (lv_at hl 8 rfl) ?_
                      refine MX.callV0 (C := RX1) (T := TX1) (N := 2) (As := [.int (nI u)]) (rest := []) (w0 := sC cI cL sm q σ n k) (w2 := []) (wB := fun ρ => (sC cI cL sm q σ n k) ++ ((oC ob h h2) ++ ((mC cI cZ h a σ) ++ (mC cI cZ h2 a2 ρ)))) (c_X1_wouldCarry l D cI cZ cL ob h a h2 a2 σ ρ_26 hst u (by omega)) ⟨hx, hb, hml, hown, hts⟩ q510 b_X1_wouldCarry (n := 1) (by decide +kernel) ⟨(Nat.le_of_ble_eq_true rfl), (Nat.le_of_ble_eq_true rfl)⟩ hK hP hD hS hA hE (by rw [List.append_nil]) (fun _ => by rw [List.append_nil]) (ci := 1) rfl rfl rfl hl.1 rfl (Nat.le_of_ble_eq_true rfl) dX2_isSame_368 ⟨by show 40 + 0 ≤ 40; omega, by show 400 + 0 ≤ 400; omega⟩ (fun ρ_27 H locs hP hD hS => ?_)
                      have hP : va_P D vwCl ((sC cI cL sm q σ n k) ++ ((oC ob h h2) ++ ((mC cI cZ h a σ) ++ (mC cI cZ h2 a2 ρ_27)))) H := hP
                      have hD : va_D A ((sC cI cL sm q σ n k) ++ ((oC ob h h2) ++ ((mC cI cZ h a σ) ++ (mC cI cZ h2 a2 ρ_27)))) := hD
                      refine W.wide (k := 40) (n := 400) (Nat.le_refl _) (Nat.le_refl _) ?_
                      refine lv_aload_n hx hb dX2_isSame_371 rfl (lv_at hl 1 rfl) ?_
                      refine lv_aload hx hb dX2_isSame_372 (lv_at hl 0 rfl) ?_
                      refine MC.callV0 (C := RX2) (T := TX2) (N := 5) (As := [.ref (q.2.2 u)]) (rest := [.int (ab (flow σ u))]) (w0 := []) (w2 := (oC ob h h2) ++ ((mC cI cZ h a σ) ++ (mC cI cZ h2 a2 ρ_27))) (wB := (sC cI cL sm q σ n k) ++ ((oC ob h h2) ++ ((mC cI cZ h a σ) ++ (mC cI cZ h2 a2 ρ_27)))) (c_X2_amount l D cI cZ cL sm q σ hst hB hB2 u (by omega)) ⟨hx, hb, hml, hown, hts⟩ q463 b_X2_amount (n := 1) (by decide +kernel) ⟨(Nat.le_of_ble_eq_true rfl), (Nat.le_of_ble_eq_true rfl)⟩ hK hP hD hS hA rfl rfl (ci := 2) rfl rfl rfl hl.1 rfl (Nat.le_of_ble_eq_true rfl) dX2_isSame_374 ⟨by show 40 + 0 ≤ 40; omega, by show 400 + 0 ≤ 400; omega⟩ (fun H locs hP hD hS => ?_)
                      refine W.wide (k := 40) (n := 400) (Nat.le_refl _) (Nat.le_refl _) ?_
                      refine lv_icmp_eq (tgt := 382) hx hb dX2_isSame_377 (by decide) (fun c_377 => ?_) (fun z => absurd (rfl) z)
                      refine lv_iinc (v := (nI (u + 1))) (lv' := [(7, .int (nI (u + 1))), (8, .ref (q.2.2 u)), (0, .ref sm), (1, .ref ob), (2, .int (sumI (fun f => σ 2 f) n)), (3, .int (sumI (fun f => isW σ f) n)), (4, .int (sumI (fun f => if σ 4 f = 0 then (0 : Int32) else 1) n)), (5, .int (amax (fun q => σ 0 q + σ 2 q) n)), (6, .int (amax (fun q => σ 8 q) (u + 1)))]) hx hb dX2_isSame_382 hl (k := 8) rfl (nI_add u 1) (by decide) rfl (fun ls hl => ?_)
                      refine lv_goto (tgt := 264) hx hb dX2_isSame_385 (by decide) ?_
                      exact ih_264 (u + 1) ρ_27 (by omega) (by omega) _ _ _ hP hD hS (lv_sub hl [2, 3, 4, 5, 6, 7, 8, 0] rfl)
                    · refine lv_iconst (v := 1) hx hb dX2_isSame_344 (by decide) ?_
                      refine lv_goto (tgt := 349) hx hb dX2_isSame_345 (by decide) ?_
                      refine lv_icmp_ne (tgt := 380) hx hb dX2_isSame_349 (by decide) (fun z => absurd (c_341) z) (fun c_349 => ?_)
                      refine lv_aload_n hx hb dX2_isSame_352 rfl (lv_at hl 2 rfl) ?_
                      refine lv_iload hx hb dX2_isSame_353 (lv_at hl 8 rfl) ?_
                      refine MX.callV0 (C := RX1) (T := TX1) (N := 2) (As := [.int (nI u)]) (rest := []) (w0 := sC cI cL sm q σ n k) (w2 := []) (wB := fun ρ => (sC cI cL sm q σ n k) ++ ((oC ob h h2) ++ ((mC cI cZ h a σ) ++ (mC cI cZ h2 a2 ρ)))) (c_X1_carriedBy l D cI cZ cL ob h a h2 a2 σ ρ_25 hst u (by omega)) ⟨hx, hb, hml, hown, hts⟩ q509 b_X1_carriedBy (n := 1) (by decide +kernel) ⟨(Nat.le_of_ble_eq_true rfl), (Nat.le_of_ble_eq_true rfl)⟩ hK hP hD hS hA hE (by rw [List.append_nil]) (fun _ => by rw [List.append_nil]) (ci := 1) rfl rfl rfl hl.1 rfl (Nat.le_of_ble_eq_true rfl) dX2_isSame_355 ⟨by show 40 + 0 ≤ 40; omega, by show 400 + 0 ≤ 400; omega⟩ (fun ρ_28 H locs hP hD hS => ?_)
                      have hP : va_P D vwCl ((sC cI cL sm q σ n k) ++ ((oC ob h h2) ++ ((mC cI cZ h a σ) ++ (mC cI cZ h2 a2 ρ_28)))) H := hP
                      have hD : va_D A ((sC cI cL sm q σ n k) ++ ((oC ob h h2) ++ ((mC cI cZ h a σ) ++ (mC cI cZ h2 a2 ρ_28)))) := hD
                      refine W.wide (k := 40) (n := 400) (Nat.le_refl _) (Nat.le_refl _) ?_
                      refine lv_aload hx hb dX2_isSame_358 (lv_at hl 0 rfl) ?_
                      refine lv_iconst (v := 5) hx hb dX2_isSame_360 (by decide) ?_
                      refine s_ldD hx hb hK hP (σ := σ) (n := n) (k := k) (q := q) (sm := sm) (w0 := []) (w2 := (oC ob h h2) ++ ((mC cI cZ h a σ) ++ (mC cI cZ h2 a2 ρ_28))) rfl u (by omega) 5 rfl (by decide) (v := σ 8 u) rfl dX2_isSame_361 ?_
                      refine lv_icmp_ne (tgt := 380) hx hb dX2_isSame_362 (by decide) (fun z => absurd (rfl) z) (fun c_362 => ?_)
                      refine lv_aload_n hx hb dX2_isSame_365 rfl (lv_at hl 2 rfl) ?_
                      refine lv_iload hx hb dX2_isSame_366 (lv_at hl 8 rfl) ?_
                      refine MX.callV0 (C := RX1) (T := TX1) (N := 2) (As := [.int (nI u)]) (rest := []) (w0 := sC cI cL sm q σ n k) (w2 := []) (wB := fun ρ => (sC cI cL sm q σ n k) ++ ((oC ob h h2) ++ ((mC cI cZ h a σ) ++ (mC cI cZ h2 a2 ρ)))) (c_X1_wouldCarry l D cI cZ cL ob h a h2 a2 σ ρ_28 hst u (by omega)) ⟨hx, hb, hml, hown, hts⟩ q510 b_X1_wouldCarry (n := 1) (by decide +kernel) ⟨(Nat.le_of_ble_eq_true rfl), (Nat.le_of_ble_eq_true rfl)⟩ hK hP hD hS hA hE (by rw [List.append_nil]) (fun _ => by rw [List.append_nil]) (ci := 1) rfl rfl rfl hl.1 rfl (Nat.le_of_ble_eq_true rfl) dX2_isSame_368 ⟨by show 40 + 0 ≤ 40; omega, by show 400 + 0 ≤ 400; omega⟩ (fun ρ_29 H locs hP hD hS => ?_)
                      have hP : va_P D vwCl ((sC cI cL sm q σ n k) ++ ((oC ob h h2) ++ ((mC cI cZ h a σ) ++ (mC cI cZ h2 a2 ρ_29)))) H := hP
                      have hD : va_D A ((sC cI cL sm q σ n k) ++ ((oC ob h h2) ++ ((mC cI cZ h a σ) ++ (mC cI cZ h2 a2 ρ_29)))) := hD
                      refine W.wide (k := 40) (n := 400) (Nat.le_refl _) (Nat.le_refl _) ?_
                      refine lv_aload_n hx hb dX2_isSame_371 rfl (lv_at hl 1 rfl) ?_
                      refine lv_aload hx hb dX2_isSame_372 (lv_at hl 0 rfl) ?_
                      refine MC.callV0 (C := RX2) (T := TX2) (N := 5) (As := [.ref (q.2.2 u)]) (rest := [.int (ab (flow σ u))]) (w0 := []) (w2 := (oC ob h h2) ++ ((mC cI cZ h a σ) ++ (mC cI cZ h2 a2 ρ_29))) (wB := (sC cI cL sm q σ n k) ++ ((oC ob h h2) ++ ((mC cI cZ h a σ) ++ (mC cI cZ h2 a2 ρ_29)))) (c_X2_amount l D cI cZ cL sm q σ hst hB hB2 u (by omega)) ⟨hx, hb, hml, hown, hts⟩ q463 b_X2_amount (n := 1) (by decide +kernel) ⟨(Nat.le_of_ble_eq_true rfl), (Nat.le_of_ble_eq_true rfl)⟩ hK hP hD hS hA rfl rfl (ci := 2) rfl rfl rfl hl.1 rfl (Nat.le_of_ble_eq_true rfl) dX2_isSame_374 ⟨by show 40 + 0 ≤ 40; omega, by show 400 + 0 ≤ 400; omega⟩ (fun H locs hP hD hS => ?_)
                      refine W.wide (k := 40) (n := 400) (Nat.le_refl _) (Nat.le_refl _) ?_
                      refine lv_icmp_eq (tgt := 382) hx hb dX2_isSame_377 (by decide) (fun c_377 => ?_) (fun z => absurd (rfl) z)
                      refine lv_iinc (v := (nI (u + 1))) (lv' := [(7, .int (nI (u + 1))), (8, .ref (q.2.2 u)), (0, .ref sm), (1, .ref ob), (2, .int (sumI (fun f => σ 2 f) n)), (3, .int (sumI (fun f => isW σ f) n)), (4, .int (sumI (fun f => if σ 4 f = 0 then (0 : Int32) else 1) n)), (5, .int (amax (fun q => σ 0 q + σ 2 q) n)), (6, .int (amax (fun q => σ 8 q) (u + 1)))]) hx hb dX2_isSame_382 hl (k := 8) rfl (nI_add u 1) (by decide) rfl (fun ls hl => ?_)
                      refine lv_goto (tgt := 264) hx hb dX2_isSame_385 (by decide) ?_
                      exact ih_264 (u + 1) ρ_29 (by omega) (by omega) _ _ _ hP hD hS (lv_sub hl [2, 3, 4, 5, 6, 7, 8, 0] rfl)
                  · refine lv_iconst (v := 1) hx hb dX2_isSame_322 (by decide) ?_
                    refine lv_goto (tgt := 327) hx hb dX2_isSame_323 (by decide) ?_
                    refine lv_icmp_ne (tgt := 380) hx hb dX2_isSame_327 (by decide) (fun z => absurd (c_319) z) (fun c_327 => ?_)
                    refine lv_aload_n hx hb dX2_isSame_330 rfl (lv_at hl 2 rfl) ?_
                    refine lv_iload hx hb dX2_isSame_331 (lv_at hl 8 rfl) ?_
                    refine MX.callV0 (C := RX1) (T := TX1) (N := 2) (As := [.int (nI u)]) (rest := []) (w0 := sC cI cL sm q σ n k) (w2 := []) (wB := fun ρ => (sC cI cL sm q σ n k) ++ ((oC ob h h2) ++ ((mC cI cZ h a σ) ++ (mC cI cZ h2 a2 ρ)))) (c_X1_isOpen l D cI cZ cL ob h a h2 a2 σ ρ_24 hst hB u (by omega)) ⟨hx, hb, hml, hown, hts⟩ q508 b_X1_isOpen (n := 1) (by decide +kernel) ⟨(Nat.le_of_ble_eq_true rfl), (Nat.le_of_ble_eq_true rfl)⟩ hK hP hD hS hA hE (by rw [List.append_nil]) (fun _ => by rw [List.append_nil]) (ci := 1) rfl rfl rfl hl.1 rfl (Nat.le_of_ble_eq_true rfl) dX2_isSame_333 ⟨by show 40 + 0 ≤ 40; omega, by show 400 + 0 ≤ 400; omega⟩ (fun ρ_30 H locs hP hD hS => ?_)
                    have hP : va_P D vwCl ((sC cI cL sm q σ n k) ++ ((oC ob h h2) ++ ((mC cI cZ h a σ) ++ (mC cI cZ h2 a2 ρ_30)))) H := hP
                    have hD : va_D A ((sC cI cL sm q σ n k) ++ ((oC ob h h2) ++ ((mC cI cZ h a σ) ++ (mC cI cZ h2 a2 ρ_30)))) := hD
                    refine W.wide (k := 40) (n := 400) (Nat.le_refl _) (Nat.le_refl _) ?_
                    refine lv_aload hx hb dX2_isSame_336 (lv_at hl 0 rfl) ?_
                    refine lv_iconst (v := 4) hx hb dX2_isSame_338 (by decide) ?_
                    refine s_ldD hx hb hK hP (σ := σ) (n := n) (k := k) (q := q) (sm := sm) (w0 := []) (w2 := (oC ob h h2) ++ ((mC cI cZ h a σ) ++ (mC cI cZ h2 a2 ρ_30))) rfl u (by omega) 4 rfl (by decide) (v := σ 10 u) rfl dX2_isSame_339 ?_
                    refine lv_iconst (v := 1) hx hb dX2_isSame_340 (by decide) ?_
                    refine lv_icmp_ne (tgt := 348) hx hb dX2_isSame_341 (by decide) (fun c_341 => ?_) (fun c_341 => ?_)
                    · refine lv_iconst (v := 0) hx hb dX2_isSame_348 (by decide) ?_
                      refine lv_icmp_ne (tgt := 380) hx hb dX2_isSame_349 (by decide) (fun z => absurd (b01_0 (hB.2.2.2.2.2.2 u (by omega)) c_341) z) (fun c_349 => ?_)
                      refine lv_aload_n hx hb dX2_isSame_352 rfl (lv_at hl 2 rfl) ?_
                      refine lv_iload hx hb dX2_isSame_353 (lv_at hl 8 rfl) ?_
                      refine MX.callV0 (C := RX1) (T := TX1) (N := 2) (As := [.int (nI u)]) (rest := []) (w0 := sC cI cL sm q σ n k) (w2 := []) (wB := fun ρ => (sC cI cL sm q σ n k) ++ ((oC ob h h2) ++ ((mC cI cZ h a σ) ++ (mC cI cZ h2 a2 ρ)))) (c_X1_carriedBy l D cI cZ cL ob h a h2 a2 σ ρ_30 hst u (by omega)) ⟨hx, hb, hml, hown, hts⟩ q509 b_X1_carriedBy (n := 1) (by decide +kernel) ⟨(Nat.le_of_ble_eq_true rfl), (Nat.le_of_ble_eq_true rfl)⟩ hK hP hD hS hA hE (by rw [List.append_nil]) (fun _ => by rw [List.append_nil]) (ci := 1) rfl rfl rfl hl.1 rfl (Nat.le_of_ble_eq_true rfl) dX2_isSame_355 ⟨by show 40 + 0 ≤ 40; omega, by show 400 + 0 ≤ 400; omega⟩ (fun ρ_31 H locs hP hD hS => ?_)
                      have hP : va_P D vwCl ((sC cI cL sm q σ n k) ++ ((oC ob h h2) ++ ((mC cI cZ h a σ) ++ (mC cI cZ h2 a2 ρ_31)))) H := hP
                      have hD : va_D A ((sC cI cL sm q σ n k) ++ ((oC ob h h2) ++ ((mC cI cZ h a σ) ++ (mC cI cZ h2 a2 ρ_31)))) := hD
                      refine W.wide (k := 40) (n := 400) (Nat.le_refl _) (Nat.le_refl _) ?_
                      refine lv_aload hx hb dX2_isSame_358 (lv_at hl 0 rfl) ?_
                      refine lv_iconst (v := 5) hx hb dX2_isSame_360 (by decide) ?_
                      refine s_ldD hx hb hK hP (σ := σ) (n := n) (k := k) (q := q) (sm := sm) (w0 := []) (w2 := (oC ob h h2) ++ ((mC cI cZ h a σ) ++ (mC cI cZ h2 a2 ρ_31))) rfl u (by omega) 5 rfl (by decide) (v := σ 8 u) rfl dX2_isSame_361 ?_
                      refine lv_icmp_ne (tgt := 380) hx hb dX2_isSame_362 (by decide) (fun z => absurd (rfl) z) (fun c_362 => ?_)
                      refine lv_aload_n hx hb dX2_isSame_365 rfl (lv_at hl 2 rfl) ?_
                      refine lv_iload hx hb dX2_isSame_366 (lv_at hl 8 rfl) ?_
                      refine MX.callV0 (C := RX1) (T := TX1) (N := 2) (As := [.int (nI u)]) (rest := []) (w0 := sC cI cL sm q σ n k) (w2 := []) (wB := fun ρ => (sC cI cL sm q σ n k) ++ ((oC ob h h2) ++ ((mC cI cZ h a σ) ++ (mC cI cZ h2 a2 ρ)))) (c_X1_wouldCarry l D cI cZ cL ob h a h2 a2 σ ρ_31 hst u (by omega)) ⟨hx, hb, hml, hown, hts⟩ q510 b_X1_wouldCarry (n := 1) (by decide +kernel) ⟨(Nat.le_of_ble_eq_true rfl), (Nat.le_of_ble_eq_true rfl)⟩ hK hP hD hS hA hE (by rw [List.append_nil]) (fun _ => by rw [List.append_nil]) (ci := 1) rfl rfl rfl hl.1 rfl (Nat.le_of_ble_eq_true rfl) dX2_isSame_368 ⟨by show 40 + 0 ≤ 40; omega, by show 400 + 0 ≤ 400; omega⟩ (fun ρ_32 H locs hP hD hS => ?_)
                      have hP : va_P D vwCl ((sC cI cL sm q σ n k) ++ ((oC ob h h2) ++ ((mC cI cZ h a σ) ++ (mC cI cZ h2 a2 ρ_32)))) H := hP
                      have hD : va_D A ((sC cI cL sm q σ n k) ++ ((oC ob h h2) ++ ((mC cI cZ h a σ) ++ (mC cI cZ h2 a2 ρ_32)))) := hD
                      refine W.wide (k := 40) (n := 400) (Nat.le_refl _) (Nat.le_refl _) ?_
                      refine lv_aload_n hx hb dX2_isSame_371 rfl (lv_at hl 1 rfl) ?_
                      refine lv_aload hx hb dX2_isSame_372 (lv_at hl 0 rfl) ?_
                      refine MC.callV0 (C := RX2) (T := TX2) (N := 5) (As := [.ref (q.2.2 u)]) (rest := [.int (ab (flow σ u))]) (w0 := []) (w2 := (oC ob h h2) ++ ((mC cI cZ h a σ) ++ (mC cI cZ h2 a2 ρ_32))) (wB := (sC cI cL sm q σ n k) ++ ((oC ob h h2) ++ ((mC cI cZ h a σ) ++ (mC cI cZ h2 a2 ρ_32)))) (c_X2_amount l D cI cZ cL sm q σ hst hB hB2 u (by omega)) ⟨hx, hb, hml, hown, hts⟩ q463 b_X2_amount (n := 1) (by decide +kernel) ⟨(Nat.le_of_ble_eq_true rfl), (Nat.le_of_ble_eq_true rfl)⟩ hK hP hD hS hA rfl rfl (ci := 2) rfl rfl rfl hl.1 rfl (Nat.le_of_ble_eq_true rfl) dX2_isSame_374 ⟨by show 40 + 0 ≤ 40; omega, by show 400 + 0 ≤ 400; omega⟩ (fun H locs hP hD hS => ?_)
                      refine W.wide (k := 40) (n := 400) (Nat.le_refl _) (Nat.le_refl _) ?_
                      refine lv_icmp_eq (tgt := 382) hx hb dX2_isSame_377 (by decide) (fun c_377 => ?_) (fun z => absurd (rfl) z)
                      refine lv_iinc (v := (nI (u + 1))) (lv' := [(7, .int (nI (u + 1))), (8, .ref (q.2.2 u)), (0, .ref sm), (1, .ref ob), (2, .int (sumI (fun f => σ 2 f) n)), (3, .int (sumI (fun f => isW σ f) n)), (4, .int (sumI (fun f => if σ 4 f = 0 then (0 : Int32) else 1) n)), (5, .int (amax (fun q => σ 0 q + σ 2 q) n)), (6, .int (amax (fun q => σ 8 q) (u + 1)))]) hx hb dX2_isSame_382 hl (k := 8) rfl (nI_add u 1) (by decide) rfl (fun ls hl => ?_)
                      refine lv_goto (tgt := 264) hx hb dX2_isSame_385 (by decide) ?_
                      exact ih_264 (u + 1) ρ_32 (by omega) (by omega) _ _ _ hP hD hS (lv_sub hl [2, 3, 4, 5, 6, 7, 8, 0] rfl)
                    · refine lv_iconst (v := 1) hx hb dX2_isSame_344 (by decide) ?_
                      refine lv_goto (tgt := 349) hx hb dX2_isSame_345 (by decide) ?_
                      refine lv_icmp_ne (tgt := 380) hx hb dX2_isSame_349 (by decide) (fun z => absurd (c_341) z) (fun c_349 => ?_)
                      refine lv_aload_n hx hb dX2_isSame_352 rfl (lv_at hl 2 rfl) ?_
                      refine lv_iload hx hb dX2_isSame_353 (lv_at hl 8 rfl) ?_
                      refine MX.callV0 (C := RX1) (T := TX1) (N := 2) (As := [.int (nI u)]) (rest := []) (w0 := sC cI cL sm q σ n k) (w2 := []) (wB := fun ρ => (sC cI cL sm q σ n k) ++ ((oC ob h h2) ++ ((mC cI cZ h a σ) ++ (mC cI cZ h2 a2 ρ)))) (c_X1_carriedBy l D cI cZ cL ob h a h2 a2 σ ρ_30 hst u (by omega)) ⟨hx, hb, hml, hown, hts⟩ q509 b_X1_carriedBy (n := 1) (by decide +kernel) ⟨(Nat.le_of_ble_eq_true rfl), (Nat.le_of_ble_eq_true rfl)⟩ hK hP hD hS hA hE (by rw [List.append_nil]) (fun _ => by rw [List.append_nil]) (ci := 1) rfl rfl rfl hl.1 rfl (Nat.le_of_ble_eq_true rfl) dX2_isSame_355 ⟨by show 40 + 0 ≤ 40; omega, by show 400 + 0 ≤ 400; omega⟩ (fun ρ_33 H locs hP hD hS => ?_)
                      have hP : va_P D vwCl ((sC cI cL sm q σ n k) ++ ((oC ob h h2) ++ ((mC cI cZ h a σ) ++ (mC cI cZ h2 a2 ρ_33)))) H := hP
                      have hD : va_D A ((sC cI cL sm q σ n k) ++ ((oC ob h h2) ++ ((mC cI cZ h a σ) ++ (mC cI cZ h2 a2 ρ_33)))) := hD
                      refine W.wide (k := 40) (n := 400) (Nat.le_refl _) (Nat.le_refl _) ?_
                      refine lv_aload hx hb dX2_isSame_358 (lv_at hl 0 rfl) ?_
                      refine lv_iconst (v := 5) hx hb dX2_isSame_360 (by decide) ?_
                      refine s_ldD hx hb hK hP (σ := σ) (n := n) (k := k) (q := q) (sm := sm) (w0 := []) (w2 := (oC ob h h2) ++ ((mC cI cZ h a σ) ++ (mC cI cZ h2 a2 ρ_33))) rfl u (by omega) 5 rfl (by decide) (v := σ 8 u) rfl dX2_isSame_361 ?_
                      refine lv_icmp_ne (tgt := 380) hx hb dX2_isSame_362 (by decide) (fun z => absurd (rfl) z) (fun c_362 => ?_)
                      refine lv_aload_n hx hb dX2_isSame_365 rfl (lv_at hl 2 rfl) ?_
                      refine lv_iload hx hb dX2_isSame_366 (lv_at hl 8 rfl) ?_
                      refine MX.callV0 (C := RX1) (T := TX1) (N := 2) (As := [.int (nI u)]) (rest := []) (w0 := sC cI cL sm q σ n k) (w2 := []) (wB := fun ρ => (sC cI cL sm q σ n k) ++ ((oC ob h h2) ++ ((mC cI cZ h a σ) ++ (mC cI cZ h2 a2 ρ)))) (c_X1_wouldCarry l D cI cZ cL ob h a h2 a2 σ ρ_33 hst u (by omega)) ⟨hx, hb, hml, hown, hts⟩ q510 b_X1_wouldCarry (n := 1) (by decide +kernel) ⟨(Nat.le_of_ble_eq_true rfl), (Nat.le_of_ble_eq_true rfl)⟩ hK hP hD hS hA hE (by rw [List.append_nil]) (fun _ => by rw [List.append_nil]) (ci := 1) rfl rfl rfl hl.1 rfl (Nat.le_of_ble_eq_true rfl) dX2_isSame_368 ⟨by show 40 + 0 ≤ 40; omega, by show 400 + 0 ≤ 400; omega⟩ (fun ρ_34 H locs hP hD hS => ?_)
                      have hP : va_P D vwCl ((sC cI cL sm q σ n k) ++ ((oC ob h h2) ++ ((mC cI cZ h a σ) ++ (mC cI cZ h2 a2 ρ_34)))) H := hP
                      have hD : va_D A ((sC cI cL sm q σ n k) ++ ((oC ob h h2) ++ ((mC cI cZ h a σ) ++ (mC cI cZ h2 a2 ρ_34)))) := hD
                      refine W.wide (k := 40) (n := 400) (Nat.le_refl _) (Nat.le_refl _) ?_
                      refine lv_aload_n hx hb dX2_isSame_371 rfl (lv_at hl 1 rfl) ?_
                      refine lv_aload hx hb dX2_isSame_372 (lv_at hl 0 rfl) ?_
                      refine MC.callV0 (C := RX2) (T := TX2) (N := 5) (As := [.ref (q.2.2 u)]) (rest := [.int (ab (flow σ u))]) (w0 := []) (w2 := (oC ob h h2) ++ ((mC cI cZ h a σ) ++ (mC cI cZ h2 a2 ρ_34))) (wB := (sC cI cL sm q σ n k) ++ ((oC ob h h2) ++ ((mC cI cZ h a σ) ++ (mC cI cZ h2 a2 ρ_34)))) (c_X2_amount l D cI cZ cL sm q σ hst hB hB2 u (by omega)) ⟨hx, hb, hml, hown, hts⟩ q463 b_X2_amount (n := 1) (by decide +kernel) ⟨(Nat.le_of_ble_eq_true rfl), (Nat.le_of_ble_eq_true rfl)⟩ hK hP hD hS hA rfl rfl (ci := 2) rfl rfl rfl hl.1 rfl (Nat.le_of_ble_eq_true rfl) dX2_isSame_374 ⟨by show 40 + 0 ≤ 40; omega, by show 400 + 0 ≤ 400; omega⟩ (fun H locs hP hD hS => ?_)
                      refine W.wide (k := 40) (n := 400) (Nat.le_refl _) (Nat.le_refl _) ?_
                      refine lv_icmp_eq (tgt := 382) hx hb dX2_isSame_377 (by decide) (fun c_377 => ?_) (fun z => absurd (rfl) z)
                      refine lv_iinc (v := (nI (u + 1))) (lv' := [(7, .int (nI (u + 1))), (8, .ref (q.2.2 u)), (0, .ref sm), (1, .ref ob), (2, .int (sumI (fun f => σ 2 f) n)), (3, .int (sumI (fun f => isW σ f) n)), (4, .int (sumI (fun f => if σ 4 f = 0 then (0 : Int32) else 1) n)), (5, .int (amax (fun q => σ 0 q + σ 2 q) n)), (6, .int (amax (fun q => σ 8 q) (u + 1)))]) hx hb dX2_isSame_382 hl (k := 8) rfl (nI_add u 1) (by decide) rfl (fun ls hl => ?_)
                      refine lv_goto (tgt := 264) hx hb dX2_isSame_385 (by decide) ?_
                      exact ih_264 (u + 1) ρ_34 (by omega) (by omega) _ _ _ hP hD hS (lv_sub hl [2, 3, 4, 5, 6, 7, 8, 0] rfl)
                · refine lv_iload hx hb dX2_isSame_304 (lv_at hl 8 rfl) ?_
                  refine lv_istore (lv' := [(6, .int (nI u)), (8, .ref (q.2.2 u)), (0, .ref sm), (1, .ref ob), (2, .int (sumI (fun f => σ 2 f) n)), (3, .int (sumI (fun f => isW σ f) n)), (4, .int (sumI (fun f => if σ 4 f = 0 then (0 : Int32) else 1) n)), (5, .int (amax (fun q => σ 0 q + σ 2 q) n)), (7, .int (nI u))]) hx hb dX2_isSame_306 hl (by decide) rfl (fun ls hl => ?_)
                  have e6 : (nI u) = amax (fun q => σ 8 q) (u + 1) := amax_c2 (f := (fun q => σ 8 q)) hm (by omega) c_301
                  have hl : lv_has ls 14 [(6, .int (amax (fun q => σ 8 q) (u + 1))), (8, .ref (q.2.2 u)), (0, .ref sm), (1, .ref ob), (2, .int (sumI (fun f => σ 2 f) n)), (3, .int (sumI (fun f => isW σ f) n)), (4, .int (sumI (fun f => if σ 4 f = 0 then (0 : Int32) else 1) n)), (5, .int (amax (fun q => σ 0 q + σ 2 q) n)), (7, .int (nI u))] := by rw [← e6]; exact hl
                  refine lv_aload_n hx hb dX2_isSame_308 rfl (lv_at hl 3 rfl) ?_
                  refine lv_iload hx hb dX2_isSame_309 (lv_at hl 8 rfl) ?_
                  refine MX.callV0 (C := RX1) (T := TX1) (N := 2) (As := [.int (nI u)]) (rest := []) (w0 := sC cI cL sm q σ n k) (w2 := []) (wB := fun ρ => (sC cI cL sm q σ n k) ++ ((oC ob h h2) ++ ((mC cI cZ h a σ) ++ (mC cI cZ h2 a2 ρ)))) (c_X1_isPump l D cI cZ cL ob h a h2 a2 σ ρ hst hB u (by omega)) ⟨hx, hb, hml, hown, hts⟩ q504 b_X1_isPump (n := 1) (by decide +kernel) ⟨(Nat.le_of_ble_eq_true rfl), (Nat.le_of_ble_eq_true rfl)⟩ hK hP hD hS hA hE (by rw [List.append_nil]) (fun _ => by rw [List.append_nil]) (ci := 1) rfl rfl rfl hl.1 rfl (Nat.le_of_ble_eq_true rfl) dX2_isSame_311 ⟨by show 40 + 0 ≤ 40; omega, by show 400 + 0 ≤ 400; omega⟩ (fun ρ_35 H locs hP hD hS => ?_)
                  have hP : va_P D vwCl ((sC cI cL sm q σ n k) ++ ((oC ob h h2) ++ ((mC cI cZ h a σ) ++ (mC cI cZ h2 a2 ρ_35)))) H := hP
                  have hD : va_D A ((sC cI cL sm q σ n k) ++ ((oC ob h h2) ++ ((mC cI cZ h a σ) ++ (mC cI cZ h2 a2 ρ_35)))) := hD
                  refine W.wide (k := 40) (n := 400) (Nat.le_refl _) (Nat.le_refl _) ?_
                  refine lv_aload hx hb dX2_isSame_314 (lv_at hl 1 rfl) ?_
                  refine lv_iconst (v := 3) hx hb dX2_isSame_316 (by decide) ?_
                  refine s_ldD hx hb hK hP (σ := σ) (n := n) (k := k) (q := q) (sm := sm) (w0 := []) (w2 := (oC ob h h2) ++ ((mC cI cZ h a σ) ++ (mC cI cZ h2 a2 ρ_35))) rfl u (by omega) 3 rfl (by decide) (v := σ 9 u) rfl dX2_isSame_317 ?_
                  refine lv_iconst (v := 1) hx hb dX2_isSame_318 (by decide) ?_
                  refine lv_icmp_ne (tgt := 326) hx hb dX2_isSame_319 (by decide) (fun c_319 => ?_) (fun c_319 => ?_)
                  · refine lv_iconst (v := 0) hx hb dX2_isSame_326 (by decide) ?_
                    refine lv_icmp_ne (tgt := 380) hx hb dX2_isSame_327 (by decide) (fun z => absurd (b01_0 (hB.2.2.2.2.2.1 u (by omega)) c_319) z) (fun c_327 => ?_)
                    refine lv_aload_n hx hb dX2_isSame_330 rfl (lv_at hl 3 rfl) ?_
                    refine lv_iload hx hb dX2_isSame_331 (lv_at hl 8 rfl) ?_
                    refine MX.callV0 (C := RX1) (T := TX1) (N := 2) (As := [.int (nI u)]) (rest := []) (w0 := sC cI cL sm q σ n k) (w2 := []) (wB := fun ρ => (sC cI cL sm q σ n k) ++ ((oC ob h h2) ++ ((mC cI cZ h a σ) ++ (mC cI cZ h2 a2 ρ)))) (c_X1_isOpen l D cI cZ cL ob h a h2 a2 σ ρ_35 hst hB u (by omega)) ⟨hx, hb, hml, hown, hts⟩ q508 b_X1_isOpen (n := 1) (by decide +kernel) ⟨(Nat.le_of_ble_eq_true rfl), (Nat.le_of_ble_eq_true rfl)⟩ hK hP hD hS hA hE (by rw [List.append_nil]) (fun _ => by rw [List.append_nil]) (ci := 1) rfl rfl rfl hl.1 rfl (Nat.le_of_ble_eq_true rfl) dX2_isSame_333 ⟨by show 40 + 0 ≤ 40; omega, by show 400 + 0 ≤ 400; omega⟩ (fun ρ_36 H locs hP hD hS => ?_)
                    have hP : va_P D vwCl ((sC cI cL sm q σ n k) ++ ((oC ob h h2) ++ ((mC cI cZ h a σ) ++ (mC cI cZ h2 a2 ρ_36)))) H := hP
                    have hD : va_D A ((sC cI cL sm q σ n k) ++ ((oC ob h h2) ++ ((mC cI cZ h a σ) ++ (mC cI cZ h2 a2 ρ_36)))) := hD
                    refine W.wide (k := 40) (n := 400) (Nat.le_refl _) (Nat.le_refl _) ?_
                    refine lv_aload hx hb dX2_isSame_336 (lv_at hl 1 rfl) ?_
                    refine lv_iconst (v := 4) hx hb dX2_isSame_338 (by decide) ?_
                    refine s_ldD hx hb hK hP (σ := σ) (n := n) (k := k) (q := q) (sm := sm) (w0 := []) (w2 := (oC ob h h2) ++ ((mC cI cZ h a σ) ++ (mC cI cZ h2 a2 ρ_36))) rfl u (by omega) 4 rfl (by decide) (v := σ 10 u) rfl dX2_isSame_339 ?_
                    refine lv_iconst (v := 1) hx hb dX2_isSame_340 (by decide) ?_
                    refine lv_icmp_ne (tgt := 348) hx hb dX2_isSame_341 (by decide) (fun c_341 => ?_) (fun c_341 => ?_)
                    · refine lv_iconst (v := 0) hx hb dX2_isSame_348 (by decide) ?_
                      refine lv_icmp_ne (tgt := 380) hx hb dX2_isSame_349 (by decide) (fun z => absurd (b01_0 (hB.2.2.2.2.2.2 u (by omega)) c_341) z) (fun c_349 => ?_)
                      refine lv_aload_n hx hb dX2_isSame_352 rfl (lv_at hl 3 rfl) ?_
                      refine lv_iload hx hb dX2_isSame_353 (lv_at hl 8 rfl) ?_
                      refine MX.callV0 (C := RX1) (T := TX1) (N := 2) (As := [.int (nI u)]) (rest := []) (w0 := sC cI cL sm q σ n k) (w2 := []) (wB := fun ρ => (sC cI cL sm q σ n k) ++ ((oC ob h h2) ++ ((mC cI cZ h a σ) ++ (mC cI cZ h2 a2 ρ)))) (c_X1_carriedBy l D cI cZ cL ob h a h2 a2 σ ρ_36 hst u (by omega)) ⟨hx, hb, hml, hown, hts⟩ q509 b_X1_carriedBy (n := 1) (by decide +kernel) ⟨(Nat.le_of_ble_eq_true rfl), (Nat.le_of_ble_eq_true rfl)⟩ hK hP hD hS hA hE (by rw [List.append_nil]) (fun _ => by rw [List.append_nil]) (ci := 1) rfl rfl rfl hl.1 rfl (Nat.le_of_ble_eq_true rfl) dX2_isSame_355 ⟨by show 40 + 0 ≤ 40; omega, by show 400 + 0 ≤ 400; omega⟩ (fun ρ_37 H locs hP hD hS => ?_)
                      have hP : va_P D vwCl ((sC cI cL sm q σ n k) ++ ((oC ob h h2) ++ ((mC cI cZ h a σ) ++ (mC cI cZ h2 a2 ρ_37)))) H := hP
                      have hD : va_D A ((sC cI cL sm q σ n k) ++ ((oC ob h h2) ++ ((mC cI cZ h a σ) ++ (mC cI cZ h2 a2 ρ_37)))) := hD
                      refine W.wide (k := 40) (n := 400) (Nat.le_refl _) (Nat.le_refl _) ?_
                      refine lv_aload hx hb dX2_isSame_358 (lv_at hl 1 rfl) ?_
                      refine lv_iconst (v := 5) hx hb dX2_isSame_360 (by decide) ?_
                      refine s_ldD hx hb hK hP (σ := σ) (n := n) (k := k) (q := q) (sm := sm) (w0 := []) (w2 := (oC ob h h2) ++ ((mC cI cZ h a σ) ++ (mC cI cZ h2 a2 ρ_37))) rfl u (by omega) 5 rfl (by decide) (v := σ 8 u) rfl dX2_isSame_361 ?_
                      refine lv_icmp_ne (tgt := 380) hx hb dX2_isSame_362 (by decide) (fun z => absurd (rfl) z) (fun c_362 => ?_)
                      refine lv_aload_n hx hb dX2_isSame_365 rfl (lv_at hl 3 rfl) ?_
                      refine lv_iload hx hb dX2_isSame_366 (lv_at hl 8 rfl) ?_
                      refine MX.callV0 (C := RX1) (T := TX1) (N := 2) (As := [.int (nI u)]) (rest := []) (w0 := sC cI cL sm q σ n k) (w2 := []) (wB := fun ρ => (sC cI cL sm q σ n k) ++ ((oC ob h h2) ++ ((mC cI cZ h a σ) ++ (mC cI cZ h2 a2 ρ)))) (c_X1_wouldCarry l D cI cZ cL ob h a h2 a2 σ ρ_37 hst u (by omega)) ⟨hx, hb, hml, hown, hts⟩ q510 b_X1_wouldCarry (n := 1) (by decide +kernel) ⟨(Nat.le_of_ble_eq_true rfl), (Nat.le_of_ble_eq_true rfl)⟩ hK hP hD hS hA hE (by rw [List.append_nil]) (fun _ => by rw [List.append_nil]) (ci := 1) rfl rfl rfl hl.1 rfl (Nat.le_of_ble_eq_true rfl) dX2_isSame_368 ⟨by show 40 + 0 ≤ 40; omega, by show 400 + 0 ≤ 400; omega⟩ (fun ρ_38 H locs hP hD hS => ?_)
                      have hP : va_P D vwCl ((sC cI cL sm q σ n k) ++ ((oC ob h h2) ++ ((mC cI cZ h a σ) ++ (mC cI cZ h2 a2 ρ_38)))) H := hP
                      have hD : va_D A ((sC cI cL sm q σ n k) ++ ((oC ob h h2) ++ ((mC cI cZ h a σ) ++ (mC cI cZ h2 a2 ρ_38)))) := hD
                      refine W.wide (k := 40) (n := 400) (Nat.le_refl _) (Nat.le_refl _) ?_
                      refine lv_aload_n hx hb dX2_isSame_371 rfl (lv_at hl 2 rfl) ?_
                      refine lv_aload hx hb dX2_isSame_372 (lv_at hl 1 rfl) ?_
                      refine MC.callV0 (C := RX2) (T := TX2) (N := 5) (As := [.ref (q.2.2 u)]) (rest := [.int (ab (flow σ u))]) (w0 := []) (w2 := (oC ob h h2) ++ ((mC cI cZ h a σ) ++ (mC cI cZ h2 a2 ρ_38))) (wB := (sC cI cL sm q σ n k) ++ ((oC ob h h2) ++ ((mC cI cZ h a σ) ++ (mC cI cZ h2 a2 ρ_38)))) (c_X2_amount l D cI cZ cL sm q σ hst hB hB2 u (by omega)) ⟨hx, hb, hml, hown, hts⟩ q463 b_X2_amount (n := 1) (by decide +kernel) ⟨(Nat.le_of_ble_eq_true rfl), (Nat.le_of_ble_eq_true rfl)⟩ hK hP hD hS hA rfl rfl (ci := 2) rfl rfl rfl hl.1 rfl (Nat.le_of_ble_eq_true rfl) dX2_isSame_374 ⟨by show 40 + 0 ≤ 40; omega, by show 400 + 0 ≤ 400; omega⟩ (fun H locs hP hD hS => ?_)
                      refine W.wide (k := 40) (n := 400) (Nat.le_refl _) (Nat.le_refl _) ?_
                      refine lv_icmp_eq (tgt := 382) hx hb dX2_isSame_377 (by decide) (fun c_377 => ?_) (fun z => absurd (rfl) z)
                      refine lv_iinc (v := (nI (u + 1))) (lv' := [(7, .int (nI (u + 1))), (6, .int (amax (fun q => σ 8 q) (u + 1))), (8, .ref (q.2.2 u)), (0, .ref sm), (1, .ref ob), (2, .int (sumI (fun f => σ 2 f) n)), (3, .int (sumI (fun f => isW σ f) n)), (4, .int (sumI (fun f => if σ 4 f = 0 then (0 : Int32) else 1) n)), (5, .int (amax (fun q => σ 0 q + σ 2 q) n))]) hx hb dX2_isSame_382 hl (k := 8) rfl (nI_add u 1) (by decide) rfl (fun ls hl => ?_)
                      refine lv_goto (tgt := 264) hx hb dX2_isSame_385 (by decide) ?_
                      exact ih_264 (u + 1) ρ_38 (by omega) (by omega) _ _ _ hP hD hS (lv_sub hl [3, 4, 5, 6, 7, 8, 1, 0] rfl)
                    · refine lv_iconst (v := 1) hx hb dX2_isSame_344 (by decide) ?_
                      refine lv_goto (tgt := 349) hx hb dX2_isSame_345 (by decide) ?_
                      refine lv_icmp_ne (tgt := 380) hx hb dX2_isSame_349 (by decide) (fun z => absurd (c_341) z) (fun c_349 => ?_)
                      refine lv_aload_n hx hb dX2_isSame_352 rfl (lv_at hl 3 rfl) ?_
                      refine lv_iload hx hb dX2_isSame_353 (lv_at hl 8 rfl) ?_
                      refine MX.callV0 (C := RX1) (T := TX1) (N := 2) (As := [.int (nI u)]) (rest := []) (w0 := sC cI cL sm q σ n k) (w2 := []) (wB := fun ρ => (sC cI cL sm q σ n k) ++ ((oC ob h h2) ++ ((mC cI cZ h a σ) ++ (mC cI cZ h2 a2 ρ)))) (c_X1_carriedBy l D cI cZ cL ob h a h2 a2 σ ρ_36 hst u (by omega)) ⟨hx, hb, hml, hown, hts⟩ q509 b_X1_carriedBy (n := 1) (by decide +kernel) ⟨(Nat.le_of_ble_eq_true rfl), (Nat.le_of_ble_eq_true rfl)⟩ hK hP hD hS hA hE (by rw [List.append_nil]) (fun _ => by rw [List.append_nil]) (ci := 1) rfl rfl rfl hl.1 rfl (Nat.le_of_ble_eq_true rfl) dX2_isSame_355 ⟨by show 40 + 0 ≤ 40; omega, by show 400 + 0 ≤ 400; omega⟩ (fun ρ_39 H locs hP hD hS => ?_)
                      have hP : va_P D vwCl ((sC cI cL sm q σ n k) ++ ((oC ob h h2) ++ ((mC cI cZ h a σ) ++ (mC cI cZ h2 a2 ρ_39)))) H := hP
                      have hD : va_D A ((sC cI cL sm q σ n k) ++ ((oC ob h h2) ++ ((mC cI cZ h a σ) ++ (mC cI cZ h2 a2 ρ_39)))) := hD
                      refine W.wide (k := 40) (n := 400) (Nat.le_refl _) (Nat.le_refl _) ?_
                      refine lv_aload hx hb dX2_isSame_358 (lv_at hl 1 rfl) ?_
                      refine lv_iconst (v := 5) hx hb dX2_isSame_360 (by decide) ?_
                      refine s_ldD hx hb hK hP (σ := σ) (n := n) (k := k) (q := q) (sm := sm) (w0 := []) (w2 := (oC ob h h2) ++ ((mC cI cZ h a σ) ++ (mC cI cZ h2 a2 ρ_39))) rfl u (by omega) 5 rfl (by decide) (v := σ 8 u) rfl dX2_isSame_361 ?_
                      refine lv_icmp_ne (tgt := 380) hx hb dX2_isSame_362 (by decide) (fun z => absurd (rfl) z) (fun c_362 => ?_)
                      refine lv_aload_n hx hb dX2_isSame_365 rfl (lv_at hl 3 rfl) ?_
                      refine lv_iload hx hb dX2_isSame_366 (lv_at hl 8 rfl) ?_
                      refine MX.callV0 (C := RX1) (T := TX1) (N := 2) (As := [.int (nI u)]) (rest := []) (w0 := sC cI cL sm q σ n k) (w2 := []) (wB := fun ρ => (sC cI cL sm q σ n k) ++ ((oC ob h h2) ++ ((mC cI cZ h a σ) ++ (mC cI cZ h2 a2 ρ)))) (c_X1_wouldCarry l D cI cZ cL ob h a h2 a2 σ ρ_39 hst u (by omega)) ⟨hx, hb, hml, hown, hts⟩ q510 b_X1_wouldCarry (n := 1) (by decide +kernel) ⟨(Nat.le_of_ble_eq_true rfl), (Nat.le_of_ble_eq_true rfl)⟩ hK hP hD hS hA hE (by rw [List.append_nil]) (fun _ => by rw [List.append_nil]) (ci := 1) rfl rfl rfl hl.1 rfl (Nat.le_of_ble_eq_true rfl) dX2_isSame_368 ⟨by show 40 + 0 ≤ 40; omega, by show 400 + 0 ≤ 400; omega⟩ (fun ρ_40 H locs hP hD hS => ?_)
                      have hP : va_P D vwCl ((sC cI cL sm q σ n k) ++ ((oC ob h h2) ++ ((mC cI cZ h a σ) ++ (mC cI cZ h2 a2 ρ_40)))) H := hP
                      have hD : va_D A ((sC cI cL sm q σ n k) ++ ((oC ob h h2) ++ ((mC cI cZ h a σ) ++ (mC cI cZ h2 a2 ρ_40)))) := hD
                      refine W.wide (k := 40) (n := 400) (Nat.le_refl _) (Nat.le_refl _) ?_
                      refine lv_aload_n hx hb dX2_isSame_371 rfl (lv_at hl 2 rfl) ?_
                      refine lv_aload hx hb dX2_isSame_372 (lv_at hl 1 rfl) ?_
                      refine MC.callV0 (C := RX2) (T := TX2) (N := 5) (As := [.ref (q.2.2 u)]) (rest := [.int (ab (flow σ u))]) (w0 := []) (w2 := (oC ob h h2) ++ ((mC cI cZ h a σ) ++ (mC cI cZ h2 a2 ρ_40))) (wB := (sC cI cL sm q σ n k) ++ ((oC ob h h2) ++ ((mC cI cZ h a σ) ++ (mC cI cZ h2 a2 ρ_40)))) (c_X2_amount l D cI cZ cL sm q σ hst hB hB2 u (by omega)) ⟨hx, hb, hml, hown, hts⟩ q463 b_X2_amount (n := 1) (by decide +kernel) ⟨(Nat.le_of_ble_eq_true rfl), (Nat.le_of_ble_eq_true rfl)⟩ hK hP hD hS hA rfl rfl (ci := 2) rfl rfl rfl hl.1 rfl (Nat.le_of_ble_eq_true rfl) dX2_isSame_374 ⟨by show 40 + 0 ≤ 40; omega, by show 400 + 0 ≤ 400; omega⟩ (fun H locs hP hD hS => ?_)
                      refine W.wide (k := 40) (n := 400) (Nat.le_refl _) (Nat.le_refl _) ?_
                      refine lv_icmp_eq (tgt := 382) hx hb dX2_isSame_377 (by decide) (fun c_377 => ?_) (fun z => absurd (rfl) z)
                      refine lv_iinc (v := (nI (u + 1))) (lv' := [(7, .int (nI (u + 1))), (6, .int (amax (fun q => σ 8 q) (u + 1))), (8, .ref (q.2.2 u)), (0, .ref sm), (1, .ref ob), (2, .int (sumI (fun f => σ 2 f) n)), (3, .int (sumI (fun f => isW σ f) n)), (4, .int (sumI (fun f => if σ 4 f = 0 then (0 : Int32) else 1) n)), (5, .int (amax (fun q => σ 0 q + σ 2 q) n))]) hx hb dX2_isSame_382 hl (k := 8) rfl (nI_add u 1) (by decide) rfl (fun ls hl => ?_)
                      refine lv_goto (tgt := 264) hx hb dX2_isSame_385 (by decide) ?_
                      exact ih_264 (u + 1) ρ_40 (by omega) (by omega) _ _ _ hP hD hS (lv_sub hl [3, 4, 5, 6, 7, 8, 1, 0] rfl)
                  · refine lv_iconst (v := 1) hx hb dX2_isSame_322 (by decide) ?_
                    refine lv_goto (tgt := 327) hx hb dX2_isSame_323 (by decide) ?_
                    refine lv_icmp_ne (tgt := 380) hx hb dX2_isSame_327 (by decide) (fun z => absurd (c_319) z) (fun c_327 => ?_)
                    refine lv_aload_n hx hb dX2_isSame_330 rfl (lv_at hl 3 rfl) ?_
                    refine lv_iload hx hb dX2_isSame_331 (lv_at hl 8 rfl) ?_
                    refine MX.callV0 (C := RX1) (T := TX1) (N := 2) (As := [.int (nI u)]) (rest := []) (w0 := sC cI cL sm q σ n k) (w2 := []) (wB := fun ρ => (sC cI cL sm q σ n k) ++ ((oC ob h h2) ++ ((mC cI cZ h a σ) ++ (mC cI cZ h2 a2 ρ)))) (c_X1_isOpen l D cI cZ cL ob h a h2 a2 σ ρ_35 hst hB u (by omega)) ⟨hx, hb, hml, hown, hts⟩ q508 b_X1_isOpen (n := 1) (by decide +kernel) ⟨(Nat.le_of_ble_eq_true rfl), (Nat.le_of_ble_eq_true rfl)⟩ hK hP hD hS hA hE (by rw [List.append_nil]) (fun _ => by rw [List.append_nil]) (ci := 1) rfl rfl rfl hl.1 rfl (Nat.le_of_ble_eq_true rfl) dX2_isSame_333 ⟨by show 40 + 0 ≤ 40; omega, by show 400 + 0 ≤ 400; omega⟩ (fun ρ_41 H locs hP hD hS => ?_)
                    have hP : va_P D vwCl ((sC cI cL sm q σ n k) ++ ((oC ob h h2) ++ ((mC cI cZ h a σ) ++ (mC cI cZ h2 a2 ρ_41)))) H := hP
                    have hD : va_D A ((sC cI cL sm q σ n k) ++ ((oC ob h h2) ++ ((mC cI cZ h a σ) ++ (mC cI cZ h2 a2 ρ_41)))) := hD
                    refine W.wide (k := 40) (n := 400) (Nat.le_refl _) (Nat.le_refl _) ?_
                    refine lv_aload hx hb dX2_isSame_336 (lv_at hl 1 rfl) ?_
                    refine lv_iconst (v := 4) hx hb dX2_isSame_338 (by decide) ?_
                    refine s_ldD hx hb hK hP (σ := σ) (n := n) (k := k) (q := q) (sm := sm) (w0 := []) (w2 := (oC ob h h2) ++ ((mC cI cZ h a σ) ++ (mC cI cZ h2 a2 ρ_41))) rfl u (by omega) 4 rfl (by decide) (v := σ 10 u) rfl dX2_isSame_339 ?_
                    refine lv_iconst (v := 1) hx hb dX2_isSame_340 (by decide) ?_
                    refine lv_icmp_ne (tgt := 348) hx hb dX2_isSame_341 (by decide) (fun c_341 => ?_) (fun c_341 => ?_)
                    · refine lv_iconst (v := 0) hx hb dX2_isSame_348 (by decide) ?_
                      refine lv_icmp_ne (tgt := 380) hx hb dX2_isSame_349 (by decide) (fun z => absurd (b01_0 (hB.2.2.2.2.2.2 u (by omega)) c_341) z) (fun c_349 => ?_)
                      refine lv_aload_n hx hb dX2_isSame_352 rfl (lv_at hl 3 rfl) ?_
                      refine lv_iload hx hb dX2_isSame_353 (lv_at hl 8 rfl) ?_
                      refine MX.callV0 (C := RX1) (T := TX1) (N := 2) (As := [.int (nI u)]) (rest := []) (w0 := sC cI cL sm q σ n k) (w2 := []) (wB := fun ρ => (sC cI cL sm q σ n k) ++ ((oC ob h h2) ++ ((mC cI cZ h a σ) ++ (mC cI cZ h2 a2 ρ)))) (c_X1_carriedBy l D cI cZ cL ob h a h2 a2 σ ρ_41 hst u (by omega)) ⟨hx, hb, hml, hown, hts⟩ q509 b_X1_carriedBy (n := 1) (by decide +kernel) ⟨(Nat.le_of_ble_eq_true rfl), (Nat.le_of_ble_eq_true rfl)⟩ hK hP hD hS hA hE (by rw [List.append_nil]) (fun _ => by rw [List.append_nil]) (ci := 1) rfl rfl rfl hl.1 rfl (Nat.le_of_ble_eq_true rfl) dX2_isSame_355 ⟨by show 40 + 0 ≤ 40; omega, by show 400 + 0 ≤ 400; omega⟩ (fun ρ_42 H locs hP hD hS => ?_)
                      have hP : va_P D vwCl ((sC cI cL sm q σ n k) ++ ((oC ob h h2) ++ ((mC cI cZ h a σ) ++ (mC cI cZ h2 a2 ρ_42)))) H := hP
                      have hD : va_D A ((sC cI cL sm q σ n k) ++ ((oC ob h h2) ++ ((mC cI cZ h a σ) ++ (mC cI cZ h2 a2 ρ_42)))) := hD
                      refine W.wide (k := 40) (n := 400) (Nat.le_refl _) (Nat.le_refl _) ?_
                      refine lv_aload hx hb dX2_isSame_358 (lv_at hl 1 rfl) ?_
                      refine lv_iconst (v := 5) hx hb dX2_isSame_360 (by decide) ?_
                      refine s_ldD hx hb hK hP (σ := σ) (n := n) (k := k) (q := q) (sm := sm) (w0 := []) (w2 := (oC ob h h2) ++ ((mC cI cZ h a σ) ++ (mC cI cZ h2 a2 ρ_42))) rfl u (by omega) 5 rfl (by decide) (v := σ 8 u) rfl dX2_isSame_361 ?_
                      refine lv_icmp_ne (tgt := 380) hx hb dX2_isSame_362 (by decide) (fun z => absurd (rfl) z) (fun c_362 => ?_)
                      refine lv_aload_n hx hb dX2_isSame_365 rfl (lv_at hl 3 rfl) ?_
                      refine lv_iload hx hb dX2_isSame_366 (lv_at hl 8 rfl) ?_
                      refine MX.callV0 (C := RX1) (T := TX1) (N := 2) (As := [.int (nI u)]) (rest := []) (w0 := sC cI cL sm q σ n k) (w2 := []) (wB := fun ρ => (sC cI cL sm q σ n k) ++ ((oC ob h h2) ++ ((mC cI cZ h a σ) ++ (mC cI cZ h2 a2 ρ)))) (c_X1_wouldCarry l D cI cZ cL ob h a h2 a2 σ ρ_42 hst u (by omega)) ⟨hx, hb, hml, hown, hts⟩ q510 b_X1_wouldCarry (n := 1) (by decide +kernel) ⟨(Nat.le_of_ble_eq_true rfl), (Nat.le_of_ble_eq_true rfl)⟩ hK hP hD hS hA hE (by rw [List.append_nil]) (fun _ => by rw [List.append_nil]) (ci := 1) rfl rfl rfl hl.1 rfl (Nat.le_of_ble_eq_true rfl) dX2_isSame_368 ⟨by show 40 + 0 ≤ 40; omega, by show 400 + 0 ≤ 400; omega⟩ (fun ρ_43 H locs hP hD hS => ?_)
                      have hP : va_P D vwCl ((sC cI cL sm q σ n k) ++ ((oC ob h h2) ++ ((mC cI cZ h a σ) ++ (mC cI cZ h2 a2 ρ_43)))) H := hP
                      have hD : va_D A ((sC cI cL sm q σ n k) ++ ((oC ob h h2) ++ ((mC cI cZ h a σ) ++ (mC cI cZ h2 a2 ρ_43)))) := hD
                      refine W.wide (k := 40) (n := 400) (Nat.le_refl _) (Nat.le_refl _) ?_
                      refine lv_aload_n hx hb dX2_isSame_371 rfl (lv_at hl 2 rfl) ?_
                      refine lv_aload hx hb dX2_isSame_372 (lv_at hl 1 rfl) ?_
                      refine MC.callV0 (C := RX2) (T := TX2) (N := 5) (As := [.ref (q.2.2 u)]) (rest := [.int (ab (flow σ u))]) (w0 := []) (w2 := (oC ob h h2) ++ ((mC cI cZ h a σ) ++ (mC cI cZ h2 a2 ρ_43))) (wB := (sC cI cL sm q σ n k) ++ ((oC ob h h2) ++ ((mC cI cZ h a σ) ++ (mC cI cZ h2 a2 ρ_43)))) (c_X2_amount l D cI cZ cL sm q σ hst hB hB2 u (by omega)) ⟨hx, hb, hml, hown, hts⟩ q463 b_X2_amount (n := 1) (by decide +kernel) ⟨(Nat.le_of_ble_eq_true rfl), (Nat.le_of_ble_eq_true rfl)⟩ hK hP hD hS hA rfl rfl (ci := 2) rfl rfl rfl hl.1 rfl (Nat.le_of_ble_eq_true rfl) dX2_isSame_374 ⟨by show 40 + 0 ≤ 40; omega, by show 400 + 0 ≤ 400; omega⟩ (fun H locs hP hD hS => ?_)
                      refine W.wide (k := 40) (n := 400) (Nat.le_refl _) (Nat.le_refl _) ?_
                      refine lv_icmp_eq (tgt := 382) hx hb dX2_isSame_377 (by decide) (fun c_377 => ?_) (fun z => absurd (rfl) z)
                      refine lv_iinc (v := (nI (u + 1))) (lv' := [(7, .int (nI (u + 1))), (6, .int (amax (fun q => σ 8 q) (u + 1))), (8, .ref (q.2.2 u)), (0, .ref sm), (1, .ref ob), (2, .int (sumI (fun f => σ 2 f) n)), (3, .int (sumI (fun f => isW σ f) n)), (4, .int (sumI (fun f => if σ 4 f = 0 then (0 : Int32) else 1) n)), (5, .int (amax (fun q => σ 0 q + σ 2 q) n))]) hx hb dX2_isSame_382 hl (k := 8) rfl (nI_add u 1) (by decide) rfl (fun ls hl => ?_)
                      refine lv_goto (tgt := 264) hx hb dX2_isSame_385 (by decide) ?_
                      exact ih_264 (u + 1) ρ_43 (by omega) (by omega) _ _ _ hP hD hS (lv_sub hl [3, 4, 5, 6, 7, 8, 1, 0] rfl)
                    · refine lv_iconst (v := 1) hx hb dX2_isSame_344 (by decide) ?_
                      refine lv_goto (tgt := 349) hx hb dX2_isSame_345 (by decide) ?_
                      refine lv_icmp_ne (tgt := 380) hx hb dX2_isSame_349 (by decide) (fun z => absurd (c_341) z) (fun c_349 => ?_)
                      refine lv_aload_n hx hb dX2_isSame_352 rfl (lv_at hl 3 rfl) ?_
                      refine lv_iload hx hb dX2_isSame_353 (lv_at hl 8 rfl) ?_
                      refine MX.callV0 (C := RX1) (T := TX1) (N := 2) (As := [.int (nI u)]) (rest := []) (w0 := sC cI cL sm q σ n k) (w2 := []) (wB := fun ρ => (sC cI cL sm q σ n k) ++ ((oC ob h h2) ++ ((mC cI cZ h a σ) ++ (mC cI cZ h2 a2 ρ)))) (c_X1_carriedBy l D cI cZ cL ob h a h2 a2 σ ρ_41 hst u (by omega)) ⟨hx, hb, hml, hown, hts⟩ q509 b_X1_carriedBy (n := 1) (by decide +kernel) ⟨(Nat.le_of_ble_eq_true rfl), (Nat.le_of_ble_eq_true rfl)⟩ hK hP hD hS hA hE (by rw [List.append_nil]) (fun _ => by rw [List.append_nil]) (ci := 1) rfl rfl rfl hl.1 rfl (Nat.le_of_ble_eq_true rfl) dX2_isSame_355 ⟨by show 40 + 0 ≤ 40; omega, by show 400 + 0 ≤ 400; omega⟩ (fun ρ_44 H locs hP hD hS => ?_)
                      have hP : va_P D vwCl ((sC cI cL sm q σ n k) ++ ((oC ob h h2) ++ ((mC cI cZ h a σ) ++ (mC cI cZ h2 a2 ρ_44)))) H := hP
                      have hD : va_D A ((sC cI cL sm q σ n k) ++ ((oC ob h h2) ++ ((mC cI cZ h a σ) ++ (mC cI cZ h2 a2 ρ_44)))) := hD
                      refine W.wide (k := 40) (n := 400) (Nat.le_refl _) (Nat.le_refl _) ?_
                      refine lv_aload hx hb dX2_isSame_358 (lv_at hl 1 rfl) ?_
                      refine lv_iconst (v := 5) hx hb dX2_isSame_360 (by decide) ?_
                      refine s_ldD hx hb hK hP (σ := σ) (n := n) (k := k) (q := q) (sm := sm) (w0 := []) (w2 := (oC ob h h2) ++ ((mC cI cZ h a σ) ++ (mC cI cZ h2 a2 ρ_44))) rfl u (by omega) 5 rfl (by decide) (v := σ 8 u) rfl dX2_isSame_361 ?_
                      refine lv_icmp_ne (tgt := 380) hx hb dX2_isSame_362 (by decide) (fun z => absurd (rfl) z) (fun c_362 => ?_)
                      refine lv_aload_n hx hb dX2_isSame_365 rfl (lv_at hl 3 rfl) ?_
                      refine lv_iload hx hb dX2_isSame_366 (lv_at hl 8 rfl) ?_
                      refine MX.callV0 (C := RX1) (T := TX1) (N := 2) (As := [.int (nI u)]) (rest := []) (w0 := sC cI cL sm q σ n k) (w2 := []) (wB := fun ρ => (sC cI cL sm q σ n k) ++ ((oC ob h h2) ++ ((mC cI cZ h a σ) ++ (mC cI cZ h2 a2 ρ)))) (c_X1_wouldCarry l D cI cZ cL ob h a h2 a2 σ ρ_44 hst u (by omega)) ⟨hx, hb, hml, hown, hts⟩ q510 b_X1_wouldCarry (n := 1) (by decide +kernel) ⟨(Nat.le_of_ble_eq_true rfl), (Nat.le_of_ble_eq_true rfl)⟩ hK hP hD hS hA hE (by rw [List.append_nil]) (fun _ => by rw [List.append_nil]) (ci := 1) rfl rfl rfl hl.1 rfl (Nat.le_of_ble_eq_true rfl) dX2_isSame_368 ⟨by show 40 + 0 ≤ 40; omega, by show 400 + 0 ≤ 400; omega⟩ (fun ρ_45 H locs hP hD hS => ?_)
                      have hP : va_P D vwCl ((sC cI cL sm q σ n k) ++ ((oC ob h h2) ++ ((mC cI cZ h a σ) ++ (mC cI cZ h2 a2 ρ_45)))) H := hP
                      have hD : va_D A ((sC cI cL sm q σ n k) ++ ((oC ob h h2) ++ ((mC cI cZ h a σ) ++ (mC cI cZ h2 a2 ρ_45)))) := hD
                      refine W.wide (k := 40) (n := 400) (Nat.le_refl _) (Nat.le_refl _) ?_
                      refine lv_aload_n hx hb dX2_isSame_371 rfl (lv_at hl 2 rfl) ?_
                      refine lv_aload hx hb dX2_isSame_372 (lv_at hl 1 rfl) ?_
                      refine MC.callV0 (C := RX2) (T := TX2) (N := 5) (As := [.ref (q.2.2 u)]) (rest := [.int (ab (flow σ u))]) (w0 := []) (w2 := (oC ob h h2) ++ ((mC cI cZ h a σ) ++ (mC cI cZ h2 a2 ρ_45))) (wB := (sC cI cL sm q σ n k) ++ ((oC ob h h2) ++ ((mC cI cZ h a σ) ++ (mC cI cZ h2 a2 ρ_45)))) (c_X2_amount l D cI cZ cL sm q σ hst hB hB2 u (by omega)) ⟨hx, hb, hml, hown, hts⟩ q463 b_X2_amount (n := 1) (by decide +kernel) ⟨(Nat.le_of_ble_eq_true rfl), (Nat.le_of_ble_eq_true rfl)⟩ hK hP hD hS hA rfl rfl (ci := 2) rfl rfl rfl hl.1 rfl (Nat.le_of_ble_eq_true rfl) dX2_isSame_374 ⟨by show 40 + 0 ≤ 40; omega, by show 400 + 0 ≤ 400; omega⟩ (fun H locs hP hD hS => ?_)
                      refine W.wide (k := 40) (n := 400) (Nat.le_refl _) (Nat.le_refl _) ?_
                      refine lv_icmp_eq (tgt := 382) hx hb dX2_isSame_377 (by decide) (fun c_377 => ?_) (fun z => absurd (rfl) z)
                      refine lv_iinc (v := (nI (u + 1))) (lv' := [(7, .int (nI (u + 1))), (6, .int (amax (fun q => σ 8 q) (u + 1))), (8, .ref (q.2.2 u)), (0, .ref sm), (1, .ref ob), (2, .int (sumI (fun f => σ 2 f) n)), (3, .int (sumI (fun f => isW σ f) n)), (4, .int (sumI (fun f => if σ 4 f = 0 then (0 : Int32) else 1) n)), (5, .int (amax (fun q => σ 0 q + σ 2 q) n))]) hx hb dX2_isSame_382 hl (k := 8) rfl (nI_add u 1) (by decide) rfl (fun ls hl => ?_)
                      refine lv_goto (tgt := 264) hx hb dX2_isSame_385 (by decide) ?_
                      exact ih_264 (u + 1) ρ_45 (by omega) (by omega) _ _ _ hP hD hS (lv_sub hl [3, 4, 5, 6, 7, 8, 1, 0] rfl)
        exact L264 (k + 1) 0 ρ (by omega) (by omega) _ _ _ hP hD hS (lv_sub hl [0, 1, 2, 3, 4, 5, 6, 7] rfl)
      · have hc_23 : i < n := Nat.not_le.mp (fun z => c_23 ((nI_leI (a := n) (b := i) (by omega) (by omega)).mpr z))
        refine lv_aload_n hx hb dX2_isSame_26 rfl (lv_at hl 0 rfl) ?_
        refine s_get hx hb hts hown hK hP (σ := σ) (n := n) (k := k) (q := q) (sm := sm) (w0 := []) (w2 := (oC ob h h2) ++ ((mC cI cZ h a σ) ++ (mC cI cZ h2 a2 ρ))) rfl 0 (by decide) q433 (v := .ref q.1.1) rfl dX2_isSame_27 ?_
        refine lv_iload hx hb dX2_isSame_30 (lv_at hl 7 rfl) ?_
        refine s_alF hx hb hK hP (σ := σ) (n := n) (k := k) (q := q) (sm := sm) (w0 := []) (w2 := (oC ob h h2) ++ ((mC cI cZ h a σ) ++ (mC cI cZ h2 a2 ρ))) rfl i (rfl) (by omega) (by omega) dX2_isSame_32 ?_
        refine lv_astore (lv' := [(8, .ref (q.2.1 i)), (0, .ref sm), (1, .ref ob), (2, .int (sumI (fun f => σ 2 f) i)), (3, .int (sumI (fun f => isW σ f) i)), (4, .int (sumI (fun f => if σ 4 f = 0 then (0 : Int32) else 1) i)), (5, .int (amax (fun q => σ 0 q + σ 2 q) i)), (6, .int (-1)), (7, .int (nI i))]) hx hb dX2_isSame_33 hl (by decide) rfl (fun ls hl => ?_)
        refine lv_iconst (v := 0) hx hb dX2_isSame_35 (by decide) ?_
        refine lv_istore (lv' := [(9, .int 0), (8, .ref (q.2.1 i)), (0, .ref sm), (1, .ref ob), (2, .int (sumI (fun f => σ 2 f) i)), (3, .int (sumI (fun f => isW σ f) i)), (4, .int (sumI (fun f => if σ 4 f = 0 then (0 : Int32) else 1) i)), (5, .int (amax (fun q => σ 0 q + σ 2 q) i)), (6, .int (-1)), (7, .int (nI i))]) hx hb dX2_isSame_36 hl (by decide) rfl (fun ls hl => ?_)
        refine lv_aload_n hx hb dX2_isSame_38 rfl (lv_at hl 2 rfl) ?_
        refine s_get hx hb hts hown hK hP (σ := σ) (n := n) (k := k) (q := q) (sm := sm) (w0 := []) (w2 := (oC ob h h2) ++ ((mC cI cZ h a σ) ++ (mC cI cZ h2 a2 ρ))) rfl 1 (by decide) q435 (v := .ref q.1.2) rfl dX2_isSame_39 ?_
        refine lv_astore (lv' := [(10, .ref q.1.2), (9, .int 0), (8, .ref (q.2.1 i)), (0, .ref sm), (1, .ref ob), (2, .int (sumI (fun f => σ 2 f) i)), (3, .int (sumI (fun f => isW σ f) i)), (4, .int (sumI (fun f => if σ 4 f = 0 then (0 : Int32) else 1) i)), (5, .int (amax (fun q => σ 0 q + σ 2 q) i)), (6, .int (-1)), (7, .int (nI i))]) hx hb dX2_isSame_42 hl (by decide) rfl (fun ls hl => ?_)
        refine lv_aload hx hb dX2_isSame_44 (lv_at hl 0 rfl) ?_
        refine s_lnD hx hb hK hP (σ := σ) (n := n) (k := k) (q := q) (sm := sm) (w0 := []) (w2 := (oC ob h h2) ++ ((mC cI cZ h a σ) ++ (mC cI cZ h2 a2 ρ))) rfl dX2_isSame_46 ?_
        refine lv_istore (lv' := [(11, .int (nI k)), (10, .ref q.1.2), (9, .int 0), (8, .ref (q.2.1 i)), (0, .ref sm), (1, .ref ob), (2, .int (sumI (fun f => σ 2 f) i)), (3, .int (sumI (fun f => isW σ f) i)), (4, .int (sumI (fun f => if σ 4 f = 0 then (0 : Int32) else 1) i)), (5, .int (amax (fun q => σ 0 q + σ 2 q) i)), (6, .int (-1)), (7, .int (nI i))]) hx hb dX2_isSame_47 hl (by decide) rfl (fun ls hl => ?_)
        refine lv_iconst (v := 0) hx hb dX2_isSame_49 (by decide) ?_
        refine lv_istore (lv' := [(12, .int 0), (11, .int (nI k)), (10, .ref q.1.2), (9, .int 0), (8, .ref (q.2.1 i)), (0, .ref sm), (1, .ref ob), (2, .int (sumI (fun f => σ 2 f) i)), (3, .int (sumI (fun f => isW σ f) i)), (4, .int (sumI (fun f => if σ 4 f = 0 then (0 : Int32) else 1) i)), (5, .int (amax (fun q => σ 0 q + σ 2 q) i)), (6, .int (-1)), (7, .int (nI i))]) hx hb dX2_isSame_50 hl (by decide) rfl (fun ls hl => ?_)
        have hl : lv_has ls 14 [(12, .int (nI 0)), (11, .int (nI k)), (10, .ref q.1.2), (9, .int (sumI (fun d => opB σ i d) 0)), (8, .ref (q.2.1 i)), (0, .ref sm), (1, .ref ob), (2, .int (sumI (fun f => σ 2 f) i)), (3, .int (sumI (fun f => isW σ f) i)), (4, .int (sumI (fun f => if σ 4 f = 0 then (0 : Int32) else 1) i)), (5, .int (amax (fun q => σ 0 q + σ 2 q) i)), (6, .int (-1)), (7, .int (nI i))] := hl
        have L52 : ∀ (f d : Nat), d ≤ k → k < d + f → ∀ (H : Heap) (locs : List Loc) (ls : Array Slot), va_P D vwCl ((sC cI cL sm q σ n k) ++ ((oC ob h h2) ++ ((mC cI cZ h a σ) ++ (mC cI cZ h2 a2 ρ)))) H → va_D A ((sC cI cL sm q σ n k) ++ ((oC ob h h2) ++ ((mC cI cZ h a σ) ++ (mC cI cZ h2 a2 ρ)))) → va_S A s.heap H locs → lv_has ls 14 [(11, .int (nI k)), (10, .ref q.1.2), (8, .ref (q.2.1 i)), (0, .ref sm), (1, .ref ob), (2, .int (sumI (fun f => σ 2 f) i)), (3, .int (sumI (fun f => isW σ f) i)), (4, .int (sumI (fun f => if σ 4 f = 0 then (0 : Int32) else 1) i)), (5, .int (amax (fun q => σ 0 q + σ 2 q) i)), (6, .int (-1)), (7, .int (nI i)), (9, .int (sumI (fun d => opB σ i d) d)), (12, .int (nI d))] → W p l e rmX2_isSame s m args below meth c H locs (2 * i) (20 * i) Q (F0 m 52 ls []) := by
          intro f
          induction f with
          | zero => intro d h1 h2; exact absurd h2 (by omega)
          | succ f ih_52 =>
            intro d hi_52 hf_52 H locs ls hP hD hS hl
            refine lv_iload hx hb dX2_isSame_52 (lv_at hl 12 rfl) ?_
            refine lv_iload hx hb dX2_isSame_54 (lv_at hl 0 rfl) ?_
            refine lv_icmp_ge (tgt := 108) hx hb dX2_isSame_56 (by decide) (fun c_56 => ?_) (fun c_56 => ?_)
            · have hc_56 : k ≤ d := (nI_leI (a := k) (b := d) (by omega) (by omega)).mp c_56
              refine lv_iload_n hx hb dX2_isSame_108 rfl (lv_at hl 5 rfl) ?_
              refine lv_aload hx hb dX2_isSame_109 (lv_at hl 2 rfl) ?_
              refine lv_iconst (v := 2) hx hb dX2_isSame_111 (by decide) ?_
              refine s_ldF hx hb hK hP (σ := σ) (n := n) (k := k) (q := q) (sm := sm) (w0 := []) (w2 := (oC ob h h2) ++ ((mC cI cZ h a σ) ++ (mC cI cZ h2 a2 ρ))) rfl i (by omega) 2 rfl (by decide) (v := σ 2 i) rfl dX2_isSame_112 ?_
              refine lv_iadd hx hb dX2_isSame_113 ?_
              refine lv_topi (fun v_46 ev_46 => ?_)
              refine lv_istore_n (lv' := [(2, .int v_46), (11, .int (nI k)), (10, .ref q.1.2), (8, .ref (q.2.1 i)), (0, .ref sm), (1, .ref ob), (3, .int (sumI (fun f => isW σ f) i)), (4, .int (sumI (fun f => if σ 4 f = 0 then (0 : Int32) else 1) i)), (5, .int (amax (fun q => σ 0 q + σ 2 q) i)), (6, .int (-1)), (7, .int (nI i)), (9, .int (sumI (fun d => opB σ i d) d)), (12, .int (nI d))]) hx hb dX2_isSame_114 rfl hl (by decide) rfl (fun ls hl => ?_)
              have e7 : v_46 = sumI (fun f => σ 2 f) (i + 1) := by
                rw [ev_46]
                exact sum_1 (g := (fun f => σ 2 f)) (rfl)
              rw [e7] at hl
              refine lv_iload_n hx hb dX2_isSame_115 rfl (lv_at hl 6 rfl) ?_
              refine lv_aload hx hb dX2_isSame_116 (lv_at hl 3 rfl) ?_
              refine lv_iconst (v := 2) hx hb dX2_isSame_118 (by decide) ?_
              refine s_ldF hx hb hK hP (σ := σ) (n := n) (k := k) (q := q) (sm := sm) (w0 := []) (w2 := (oC ob h h2) ++ ((mC cI cZ h a σ) ++ (mC cI cZ h2 a2 ρ))) rfl i (by omega) 2 rfl (by decide) (v := σ 2 i) rfl dX2_isSame_119 ?_
              refine lv_iconst (v := 3) hx hb dX2_isSame_120 (by decide) ?_
              refine lv_icmp_le (tgt := 128) hx hb dX2_isSame_121 (by decide) (fun c_121 => ?_) (fun c_121 => ?_)
              · refine lv_iconst (v := 0) hx hb dX2_isSame_128 (by decide) ?_
                refine lv_iadd hx hb dX2_isSame_129 ?_
                refine lv_topi (fun v_47 ev_47 => ?_)
                refine lv_istore_n (lv' := [(3, .int v_47), (2, .int (sumI (fun f => σ 2 f) (i + 1))), (11, .int (nI k)), (10, .ref q.1.2), (8, .ref (q.2.1 i)), (0, .ref sm), (1, .ref ob), (4, .int (sumI (fun f => if σ 4 f = 0 then (0 : Int32) else 1) i)), (5, .int (amax (fun q => σ 0 q + σ 2 q) i)), (6, .int (-1)), (7, .int (nI i)), (9, .int (sumI (fun d => opB σ i d) d)), (12, .int (nI d))]) hx hb dX2_isSame_130 rfl hl (by decide) rfl (fun ls hl => ?_)
                have e7 : v_47 = sumI (fun f => isW σ f) (i + 1) := by
                  rw [ev_47]
                  exact sum_1 (g := (fun f => isW σ f)) (isW_le c_121)
                rw [e7] at hl
                refine lv_iload hx hb dX2_isSame_131 (lv_at hl 7 rfl) ?_
                refine lv_aload hx hb dX2_isSame_133 (lv_at hl 4 rfl) ?_
                refine lv_iconst (v := 4) hx hb dX2_isSame_135 (by decide) ?_
                refine s_ldF hx hb hK hP (σ := σ) (n := n) (k := k) (q := q) (sm := sm) (w0 := []) (w2 := (oC ob h h2) ++ ((mC cI cZ h a σ) ++ (mC cI cZ h2 a2 ρ))) rfl i (by omega) 4 rfl (by decide) (v := σ 4 i) rfl dX2_isSame_136 ?_
                refine lv_iadd hx hb dX2_isSame_137 ?_
                refine lv_topi (fun v_48 ev_48 => ?_)
                refine lv_istore (lv' := [(4, .int v_48), (3, .int (sumI (fun f => isW σ f) (i + 1))), (2, .int (sumI (fun f => σ 2 f) (i + 1))), (11, .int (nI k)), (10, .ref q.1.2), (8, .ref (q.2.1 i)), (0, .ref sm), (1, .ref ob), (5, .int (amax (fun q => σ 0 q + σ 2 q) i)), (6, .int (-1)), (7, .int (nI i)), (9, .int (sumI (fun d => opB σ i d) d)), (12, .int (nI d))]) hx hb dX2_isSame_138 hl (by decide) rfl (fun ls hl => ?_)
                have e7 : v_48 = sumI (fun f => if σ 4 f = 0 then (0 : Int32) else 1) (i + 1) := by
                  rw [ev_48]
                  exact sum_1 (g := (fun f => if σ 4 f = 0 then (0 : Int32) else 1)) (b01_i (hB.2.2.2.2.1 i (by omega)))
                rw [e7] at hl
                rcases amax_or (fun q => σ 0 q + σ 2 q) i with ⟨hm, him⟩ | ⟨jm, hjm, hm⟩
                · rw [hm] at hl
                  refine lv_iload hx hb dX2_isSame_140 (lv_at hl 8 rfl) ?_
                  refine lv_if_lt (tgt := 160) hx hb dX2_isSame_142 (by decide) (fun c_142 => ?_) (fun z => absurd (by decide) z)
                  refine lv_iload hx hb dX2_isSame_160 (lv_at hl 10 rfl) ?_
                  refine lv_istore (lv' := [(5, .int (nI i)), (4, .int (sumI (fun f => if σ 4 f = 0 then (0 : Int32) else 1) (i + 1))), (3, .int (sumI (fun f => isW σ f) (i + 1))), (2, .int (sumI (fun f => σ 2 f) (i + 1))), (11, .int (nI k)), (10, .ref q.1.2), (8, .ref (q.2.1 i)), (0, .ref sm), (1, .ref ob), (6, .int (-1)), (7, .int (nI i)), (9, .int (sumI (fun d => opB σ i d) d)), (12, .int (nI d))]) hx hb dX2_isSame_162 hl (by decide) rfl (fun ls hl => ?_)
                  have e6 : (nI i) = amax (fun q => σ 0 q + σ 2 q) (i + 1) := amax_c1 hm
                  have hl : lv_has ls 14 [(5, .int (amax (fun q => σ 0 q + σ 2 q) (i + 1))), (4, .int (sumI (fun f => if σ 4 f = 0 then (0 : Int32) else 1) (i + 1))), (3, .int (sumI (fun f => isW σ f) (i + 1))), (2, .int (sumI (fun f => σ 2 f) (i + 1))), (11, .int (nI k)), (10, .ref q.1.2), (8, .ref (q.2.1 i)), (0, .ref sm), (1, .ref ob), (6, .int (-1)), (7, .int (nI i)), (9, .int (sumI (fun d => opB σ i d) d)), (12, .int (nI d))] := by rw [← e6]; exact hl
                  refine lv_aload_n hx hb dX2_isSame_164 rfl (lv_at hl 8 rfl) ?_
                  refine lv_iload hx hb dX2_isSame_165 (lv_at hl 10 rfl) ?_
                  refine MX.callV0 (C := RX1) (T := TX1) (N := 2) (As := [.int (nI i)]) (rest := []) (w0 := sC cI cL sm q σ n k) (w2 := []) (wB := fun ρ => (sC cI cL sm q σ n k) ++ ((oC ob h h2) ++ ((mC cI cZ h a σ) ++ (mC cI cZ h2 a2 ρ)))) (c_X1_waterOn l D cI cZ cL ob h a h2 a2 σ ρ hst i (by omega)) ⟨hx, hb, hml, hown, hts⟩ q494 b_X1_waterOn (n := 1) (by decide +kernel) ⟨(Nat.le_of_ble_eq_true rfl), (Nat.le_of_ble_eq_true rfl)⟩ hK hP hD hS hA hE (by rw [List.append_nil]) (fun _ => by rw [List.append_nil]) (ci := 1) rfl rfl rfl hl.1 rfl (Nat.le_of_ble_eq_true rfl) dX2_isSame_167 ⟨by show (2 * i) + 0 ≤ 40; omega, by show (20 * i) + 0 ≤ 400; omega⟩ (fun ρ_49 H locs hP hD hS => ?_)
                  have hP : va_P D vwCl ((sC cI cL sm q σ n k) ++ ((oC ob h h2) ++ ((mC cI cZ h a σ) ++ (mC cI cZ h2 a2 ρ_49)))) H := hP
                  have hD : va_D A ((sC cI cL sm q σ n k) ++ ((oC ob h h2) ++ ((mC cI cZ h a σ) ++ (mC cI cZ h2 a2 ρ_49)))) := hD
                  refine W.wide (k := (2 * i)) (n := (20 * i)) (by show (2 * i) + 0 ≤ (2 * i); omega) (by show (20 * i) + 0 ≤ (20 * i); omega) ?_
                  refine lv_aload hx hb dX2_isSame_170 (lv_at hl 6 rfl) ?_
                  refine lv_iconst (v := 2) hx hb dX2_isSame_172 (by decide) ?_
                  refine s_ldF hx hb hK hP (σ := σ) (n := n) (k := k) (q := q) (sm := sm) (w0 := []) (w2 := (oC ob h h2) ++ ((mC cI cZ h a σ) ++ (mC cI cZ h2 a2 ρ_49))) rfl i (by omega) 2 rfl (by decide) (v := σ 2 i) rfl dX2_isSame_173 ?_
                  refine lv_icmp_ne (tgt := 253) hx hb dX2_isSame_174 (by decide) (fun z => absurd (rfl) z) (fun c_174 => ?_)
                  refine lv_aload_n hx hb dX2_isSame_177 rfl (lv_at hl 8 rfl) ?_
                  refine lv_iload hx hb dX2_isSame_178 (lv_at hl 10 rfl) ?_
                  refine MX.callV0 (C := RX1) (T := TX1) (N := 2) (As := [.int (nI i)]) (rest := []) (w0 := sC cI cL sm q σ n k) (w2 := []) (wB := fun ρ => (sC cI cL sm q σ n k) ++ ((oC ob h h2) ++ ((mC cI cZ h a σ) ++ (mC cI cZ h2 a2 ρ)))) (c_X1_levelOf l D cI cZ cL ob h a h2 a2 σ ρ_49 hst i (by omega)) ⟨hx, hb, hml, hown, hts⟩ q495 b_X1_levelOf (n := 1) (by decide +kernel) ⟨(Nat.le_of_ble_eq_true rfl), (Nat.le_of_ble_eq_true rfl)⟩ hK hP hD hS hA hE (by rw [List.append_nil]) (fun _ => by rw [List.append_nil]) (ci := 1) rfl rfl rfl hl.1 rfl (Nat.le_of_ble_eq_true rfl) dX2_isSame_180 ⟨by show (2 * i) + 0 ≤ 40; omega, by show (20 * i) + 0 ≤ 400; omega⟩ (fun ρ_50 H locs hP hD hS => ?_)
                  have hP : va_P D vwCl ((sC cI cL sm q σ n k) ++ ((oC ob h h2) ++ ((mC cI cZ h a σ) ++ (mC cI cZ h2 a2 ρ_50)))) H := hP
                  have hD : va_D A ((sC cI cL sm q σ n k) ++ ((oC ob h h2) ++ ((mC cI cZ h a σ) ++ (mC cI cZ h2 a2 ρ_50)))) := hD
                  refine W.wide (k := (2 * i)) (n := (20 * i)) (by show (2 * i) + 0 ≤ (2 * i); omega) (by show (20 * i) + 0 ≤ (20 * i); omega) ?_
                  refine lv_aload_n hx hb dX2_isSame_183 rfl (lv_at hl 7 rfl) ?_
                  refine lv_iload hx hb dX2_isSame_184 (lv_at hl 10 rfl) ?_
                  refine MC.callV0 (C := RX2) (T := TX2) (N := 5) (As := [.int (nI i)]) (rest := [.int (σ 0 i + σ 2 i)]) (w0 := []) (w2 := (oC ob h h2) ++ ((mC cI cZ h a σ) ++ (mC cI cZ h2 a2 ρ_50))) (wB := (sC cI cL sm q σ n k) ++ ((oC ob h h2) ++ ((mC cI cZ h a σ) ++ (mC cI cZ h2 a2 ρ_50)))) (c_X2_level l D cI cZ cL sm q σ hst i (by omega)) ⟨hx, hb, hml, hown, hts⟩ q471 b_X2_level (n := 1) (by decide +kernel) ⟨(Nat.le_of_ble_eq_true rfl), (Nat.le_of_ble_eq_true rfl)⟩ hK hP hD hS hA rfl rfl (ci := 2) rfl rfl rfl hl.1 rfl (Nat.le_of_ble_eq_true rfl) dX2_isSame_186 ⟨by show (2 * i) + 0 ≤ 40; omega, by show (20 * i) + 0 ≤ 400; omega⟩ (fun H locs hP hD hS => ?_)
                  refine W.wide (k := (2 * i)) (n := (20 * i)) (by show (2 * i) + 0 ≤ (2 * i); omega) (by show (20 * i) + 0 ≤ (20 * i); omega) ?_
                  refine lv_icmp_ne (tgt := 253) hx hb dX2_isSame_189 (by decide) (fun z => absurd (rfl) z) (fun c_189 => ?_)
                  refine lv_aload_n hx hb dX2_isSame_192 rfl (lv_at hl 8 rfl) ?_
                  refine lv_iload hx hb dX2_isSame_193 (lv_at hl 10 rfl) ?_
                  refine MX.callV0 (C := RX1) (T := TX1) (N := 2) (As := [.int (nI i)]) (rest := []) (w0 := sC cI cL sm q σ n k) (w2 := []) (wB := fun ρ => (sC cI cL sm q σ n k) ++ ((oC ob h h2) ++ ((mC cI cZ h a σ) ++ (mC cI cZ h2 a2 ρ)))) (c_X1_wetFor l D cI cZ cL ob h a h2 a2 σ ρ_50 hst i (by omega)) ⟨hx, hb, hml, hown, hts⟩ q496 b_X1_wetFor (n := 1) (by decide +kernel) ⟨(Nat.le_of_ble_eq_true rfl), (Nat.le_of_ble_eq_true rfl)⟩ hK hP hD hS hA hE (by rw [List.append_nil]) (fun _ => by rw [List.append_nil]) (ci := 1) rfl rfl rfl hl.1 rfl (Nat.le_of_ble_eq_true rfl) dX2_isSame_195 ⟨by show (2 * i) + 0 ≤ 40; omega, by show (20 * i) + 0 ≤ 400; omega⟩ (fun ρ_51 H locs hP hD hS => ?_)
                  have hP : va_P D vwCl ((sC cI cL sm q σ n k) ++ ((oC ob h h2) ++ ((mC cI cZ h a σ) ++ (mC cI cZ h2 a2 ρ_51)))) H := hP
                  have hD : va_D A ((sC cI cL sm q σ n k) ++ ((oC ob h h2) ++ ((mC cI cZ h a σ) ++ (mC cI cZ h2 a2 ρ_51)))) := hD
                  refine W.wide (k := (2 * i)) (n := (20 * i)) (by show (2 * i) + 0 ≤ (2 * i); omega) (by show (20 * i) + 0 ≤ (20 * i); omega) ?_
                  refine lv_aload hx hb dX2_isSame_198 (lv_at hl 6 rfl) ?_
                  refine lv_iconst (v := 3) hx hb dX2_isSame_200 (by decide) ?_
                  refine s_ldF hx hb hK hP (σ := σ) (n := n) (k := k) (q := q) (sm := sm) (w0 := []) (w2 := (oC ob h h2) ++ ((mC cI cZ h a σ) ++ (mC cI cZ h2 a2 ρ_51))) rfl i (by omega) 3 rfl (by decide) (v := σ 3 i) rfl dX2_isSame_201 ?_
                  refine lv_icmp_ne (tgt := 253) hx hb dX2_isSame_202 (by decide) (fun z => absurd (rfl) z) (fun c_202 => ?_)
                  refine lv_aload_n hx hb dX2_isSame_205 rfl (lv_at hl 8 rfl) ?_
                  refine lv_iload hx hb dX2_isSame_206 (lv_at hl 10 rfl) ?_
                  refine MX.callV0 (C := RX1) (T := TX1) (N := 2) (As := [.int (nI i)]) (rest := []) (w0 := sC cI cL sm q σ n k) (w2 := []) (wB := fun ρ => (sC cI cL sm q σ n k) ++ ((oC ob h h2) ++ ((mC cI cZ h a σ) ++ (mC cI cZ h2 a2 ρ)))) (c_X1_isRuined l D cI cZ cL ob h a h2 a2 σ ρ_51 hst hB i (by omega)) ⟨hx, hb, hml, hown, hts⟩ q497 b_X1_isRuined (n := 1) (by decide +kernel) ⟨(Nat.le_of_ble_eq_true rfl), (Nat.le_of_ble_eq_true rfl)⟩ hK hP hD hS hA hE (by rw [List.append_nil]) (fun _ => by rw [List.append_nil]) (ci := 1) rfl rfl rfl hl.1 rfl (Nat.le_of_ble_eq_true rfl) dX2_isSame_208 ⟨by show (2 * i) + 0 ≤ 40; omega, by show (20 * i) + 0 ≤ 400; omega⟩ (fun ρ_52 H locs hP hD hS => ?_)
                  have hP : va_P D vwCl ((sC cI cL sm q σ n k) ++ ((oC ob h h2) ++ ((mC cI cZ h a σ) ++ (mC cI cZ h2 a2 ρ_52)))) H := hP
                  have hD : va_D A ((sC cI cL sm q σ n k) ++ ((oC ob h h2) ++ ((mC cI cZ h a σ) ++ (mC cI cZ h2 a2 ρ_52)))) := hD
                  refine W.wide (k := (2 * i)) (n := (20 * i)) (by show (2 * i) + 0 ≤ (2 * i); omega) (by show (20 * i) + 0 ≤ (20 * i); omega) ?_
                  refine lv_aload hx hb dX2_isSame_211 (lv_at hl 6 rfl) ?_
                  refine lv_iconst (v := 4) hx hb dX2_isSame_213 (by decide) ?_
                  refine s_ldF hx hb hK hP (σ := σ) (n := n) (k := k) (q := q) (sm := sm) (w0 := []) (w2 := (oC ob h h2) ++ ((mC cI cZ h a σ) ++ (mC cI cZ h2 a2 ρ_52))) rfl i (by omega) 4 rfl (by decide) (v := σ 4 i) rfl dX2_isSame_214 ?_
                  refine lv_iconst (v := 1) hx hb dX2_isSame_215 (by decide) ?_
                  refine lv_icmp_ne (tgt := 223) hx hb dX2_isSame_216 (by decide) (fun c_216 => ?_) (fun c_216 => ?_)
                  · refine lv_iconst (v := 0) hx hb dX2_isSame_223 (by decide) ?_
                    refine lv_icmp_ne (tgt := 253) hx hb dX2_isSame_224 (by decide) (fun z => absurd (b01_0 (hB.2.2.2.2.1 i (by omega)) c_216) z) (fun c_224 => ?_)
                    refine lv_aload_n hx hb dX2_isSame_227 rfl (lv_at hl 8 rfl) ?_
                    refine lv_iload hx hb dX2_isSame_228 (lv_at hl 10 rfl) ?_
                    refine MX.callV0 (C := RX1) (T := TX1) (N := 2) (As := [.int (nI i)]) (rest := []) (w0 := sC cI cL sm q σ n k) (w2 := []) (wB := fun ρ => (sC cI cL sm q σ n k) ++ ((oC ob h h2) ++ ((mC cI cZ h a σ) ++ (mC cI cZ h2 a2 ρ)))) (c_X1_drainsAt l D cI cZ cL ob h a h2 a2 σ ρ_52 hst i (by omega)) ⟨hx, hb, hml, hown, hts⟩ q498 b_X1_drainsAt (n := 1) (by decide +kernel) ⟨(Nat.le_of_ble_eq_true rfl), (Nat.le_of_ble_eq_true rfl)⟩ hK hP hD hS hA hE (by rw [List.append_nil]) (fun _ => by rw [List.append_nil]) (ci := 1) rfl rfl rfl hl.1 rfl (Nat.le_of_ble_eq_true rfl) dX2_isSame_230 ⟨by show (2 * i) + 0 ≤ 40; omega, by show (20 * i) + 0 ≤ 400; omega⟩ (fun ρ_53 H locs hP hD hS => ?_)
                    have hP : va_P D vwCl ((sC cI cL sm q σ n k) ++ ((oC ob h h2) ++ ((mC cI cZ h a σ) ++ (mC cI cZ h2 a2 ρ_53)))) H := hP
                    have hD : va_D A ((sC cI cL sm q σ n k) ++ ((oC ob h h2) ++ ((mC cI cZ h a σ) ++ (mC cI cZ h2 a2 ρ_53)))) := hD
                    refine W.wide (k := (2 * i)) (n := (20 * i)) (by show (2 * i) + 0 ≤ (2 * i); omega) (by show (20 * i) + 0 ≤ (20 * i); omega) ?_
                    refine lv_iload hx hb dX2_isSame_233 (lv_at hl 11 rfl) ?_
                    refine lv_icmp_ne (tgt := 253) hx hb dX2_isSame_235 (by decide) (fun z => absurd (by unfold openS; rw [hst.eD, show k = d by omega]) z) (fun c_235 => ?_)
                    refine lv_aload_n hx hb dX2_isSame_238 rfl (lv_at hl 8 rfl) ?_
                    refine lv_iload hx hb dX2_isSame_239 (lv_at hl 10 rfl) ?_
                    refine MX.callV0 (C := RX1) (T := TX1) (N := 2) (As := [.int (nI i)]) (rest := []) (w0 := sC cI cL sm q σ n k) (w2 := []) (wB := fun ρ => (sC cI cL sm q σ n k) ++ ((oC ob h h2) ++ ((mC cI cZ h a σ) ++ (mC cI cZ h2 a2 ρ)))) (c_X1_reaches l D cI cZ cL ob h a h2 a2 σ ρ_53 hst i (by omega)) ⟨hx, hb, hml, hown, hts⟩ q499 b_X1_reaches (n := 1) (by decide +kernel) ⟨(Nat.le_of_ble_eq_true rfl), (Nat.le_of_ble_eq_true rfl)⟩ hK hP hD hS hA hE (by rw [List.append_nil]) (fun _ => by rw [List.append_nil]) (ci := 1) rfl rfl rfl hl.1 rfl (Nat.le_of_ble_eq_true rfl) dX2_isSame_241 ⟨by show (2 * i) + 0 ≤ 40; omega, by show (20 * i) + 0 ≤ 400; omega⟩ (fun ρ_54 H locs hP hD hS => ?_)
                    have hP : va_P D vwCl ((sC cI cL sm q σ n k) ++ ((oC ob h h2) ++ ((mC cI cZ h a σ) ++ (mC cI cZ h2 a2 ρ_54)))) H := hP
                    have hD : va_D A ((sC cI cL sm q σ n k) ++ ((oC ob h h2) ++ ((mC cI cZ h a σ) ++ (mC cI cZ h2 a2 ρ_54)))) := hD
                    refine W.wide (k := (2 * i)) (n := (20 * i)) (by show (2 * i) + 0 ≤ (2 * i); omega) (by show (20 * i) + 0 ≤ (20 * i); omega) ?_
                    refine lv_aload_n hx hb dX2_isSame_244 rfl (lv_at hl 7 rfl) ?_
                    refine lv_iload hx hb dX2_isSame_245 (lv_at hl 10 rfl) ?_
                    refine MY.callV0 (C := RX2) (T := TX2) (N := 5) (As := [.int (nI i)]) (rest := [.int (reachS σ i)]) (w0 := []) (w2 := (oC ob h h2) ++ ((mC cI cZ h a σ) ++ (mC cI cZ h2 a2 ρ_54))) (wB := fun y => (sC cI cL sm q σ n k) ++ ((oC ob h h2) ++ ((mC cI cZ h a σ) ++ (mC cI cZ h2 a2 ρ_54)))) (c_X2_reaches l D cI cZ cL sm q σ hst i (by omega)) ⟨hx, hb, hml, hown, hts⟩ q500 b_X2_reaches (n := 1) (by decide +kernel) ⟨(Nat.le_of_ble_eq_true rfl), (Nat.le_of_ble_eq_true rfl)⟩ hK hP hD hS hA (EY.non hE) (by simp only [List.append_assoc, List.append_nil, List.nil_append]) (fun _ => by simp only [List.append_assoc, List.append_nil, List.nil_append]) (ci := 2) rfl rfl rfl hl.1 rfl (Nat.le_of_ble_eq_true rfl) dX2_isSame_247 ⟨by show (2 * i) + 1 ≤ 40; omega, by show (20 * i) + 10 ≤ 400; omega⟩ (fun y H locs hP hD hS => ?_)
                    have hP : va_P D vwCl ((sC cI cL sm q σ n k) ++ ((oC ob h h2) ++ ((mC cI cZ h a σ) ++ (mC cI cZ h2 a2 ρ_54)))) H := hP
                    have hD : va_D A ((sC cI cL sm q σ n k) ++ ((oC ob h h2) ++ ((mC cI cZ h a σ) ++ (mC cI cZ h2 a2 ρ_54)))) := hD
                    refine W.wide (k := ((2 * i) + 1)) (n := ((20 * i) + 10)) (by show (2 * i) + 1 ≤ ((2 * i) + 1); omega) (by show (20 * i) + 10 ≤ ((20 * i) + 10); omega) ?_
                    refine lv_icmp_eq (tgt := 255) hx hb dX2_isSame_250 (by decide) (fun c_250 => ?_) (fun z => absurd (rfl) z)
                    refine lv_iinc (v := (nI (i + 1))) (lv' := [(7, .int (nI (i + 1))), (5, .int (amax (fun q => σ 0 q + σ 2 q) (i + 1))), (4, .int (sumI (fun f => if σ 4 f = 0 then (0 : Int32) else 1) (i + 1))), (3, .int (sumI (fun f => isW σ f) (i + 1))), (2, .int (sumI (fun f => σ 2 f) (i + 1))), (11, .int (nI k)), (10, .ref q.1.2), (8, .ref (q.2.1 i)), (0, .ref sm), (1, .ref ob), (6, .int (-1)), (9, .int (sumI (fun d => opB σ i d) d)), (12, .int (nI d))]) hx hb dX2_isSame_255 hl (k := 10) rfl (nI_add i 1) (by decide) rfl (fun ls hl => ?_)
                    refine lv_goto (tgt := 16) hx hb dX2_isSame_258 (by decide) ?_
                    refine W.wide (k := 2 * (i + 1)) (n := 20 * (i + 1)) (by first | omega | exact Nat.le_of_ble_eq_true rfl) (by first | omega | exact Nat.le_of_ble_eq_true rfl) ?_
                    exact ih_16 (i + 1) ρ_54 (by omega) (by omega) _ _ _ hP hD hS (lv_sub hl [8, 9, 4, 3, 2, 1, 10, 0] rfl)
                  · refine lv_iconst (v := 1) hx hb dX2_isSame_219 (by decide) ?_
                    refine lv_goto (tgt := 224) hx hb dX2_isSame_220 (by decide) ?_
                    refine lv_icmp_ne (tgt := 253) hx hb dX2_isSame_224 (by decide) (fun z => absurd (c_216) z) (fun c_224 => ?_)
                    refine lv_aload_n hx hb dX2_isSame_227 rfl (lv_at hl 8 rfl) ?_
                    refine lv_iload hx hb dX2_isSame_228 (lv_at hl 10 rfl) ?_
                    refine MX.callV0 (C := RX1) (T := TX1) (N := 2) (As := [.int (nI i)]) (rest := []) (w0 := sC cI cL sm q σ n k) (w2 := []) (wB := fun ρ => (sC cI cL sm q σ n k) ++ ((oC ob h h2) ++ ((mC cI cZ h a σ) ++ (mC cI cZ h2 a2 ρ)))) (c_X1_drainsAt l D cI cZ cL ob h a h2 a2 σ ρ_52 hst i (by omega)) ⟨hx, hb, hml, hown, hts⟩ q498 b_X1_drainsAt (n := 1) (by decide +kernel) ⟨(Nat.le_of_ble_eq_true rfl), (Nat.le_of_ble_eq_true rfl)⟩ hK hP hD hS hA hE (by rw [List.append_nil]) (fun _ => by rw [List.append_nil]) (ci := 1) rfl rfl rfl hl.1 rfl (Nat.le_of_ble_eq_true rfl) dX2_isSame_230 ⟨by show (2 * i) + 0 ≤ 40; omega, by show (20 * i) + 0 ≤ 400; omega⟩ (fun ρ_55 H locs hP hD hS => ?_)
                    have hP : va_P D vwCl ((sC cI cL sm q σ n k) ++ ((oC ob h h2) ++ ((mC cI cZ h a σ) ++ (mC cI cZ h2 a2 ρ_55)))) H := hP
                    have hD : va_D A ((sC cI cL sm q σ n k) ++ ((oC ob h h2) ++ ((mC cI cZ h a σ) ++ (mC cI cZ h2 a2 ρ_55)))) := hD
                    refine W.wide (k := (2 * i)) (n := (20 * i)) (by show (2 * i) + 0 ≤ (2 * i); omega) (by show (20 * i) + 0 ≤ (20 * i); omega) ?_
                    refine lv_iload hx hb dX2_isSame_233 (lv_at hl 11 rfl) ?_
                    refine lv_icmp_ne (tgt := 253) hx hb dX2_isSame_235 (by decide) (fun z => absurd (by unfold openS; rw [hst.eD, show k = d by omega]) z) (fun c_235 => ?_)
                    refine lv_aload_n hx hb dX2_isSame_238 rfl (lv_at hl 8 rfl) ?_
                    refine lv_iload hx hb dX2_isSame_239 (lv_at hl 10 rfl) ?_
                    refine MX.callV0 (C := RX1) (T := TX1) (N := 2) (As := [.int (nI i)]) (rest := []) (w0 := sC cI cL sm q σ n k) (w2 := []) (wB := fun ρ => (sC cI cL sm q σ n k) ++ ((oC ob h h2) ++ ((mC cI cZ h a σ) ++ (mC cI cZ h2 a2 ρ)))) (c_X1_reaches l D cI cZ cL ob h a h2 a2 σ ρ_55 hst i (by omega)) ⟨hx, hb, hml, hown, hts⟩ q499 b_X1_reaches (n := 1) (by decide +kernel) ⟨(Nat.le_of_ble_eq_true rfl), (Nat.le_of_ble_eq_true rfl)⟩ hK hP hD hS hA hE (by rw [List.append_nil]) (fun _ => by rw [List.append_nil]) (ci := 1) rfl rfl rfl hl.1 rfl (Nat.le_of_ble_eq_true rfl) dX2_isSame_241 ⟨by show (2 * i) + 0 ≤ 40; omega, by show (20 * i) + 0 ≤ 400; omega⟩ (fun ρ_56 H locs hP hD hS => ?_)
                    have hP : va_P D vwCl ((sC cI cL sm q σ n k) ++ ((oC ob h h2) ++ ((mC cI cZ h a σ) ++ (mC cI cZ h2 a2 ρ_56)))) H := hP
                    have hD : va_D A ((sC cI cL sm q σ n k) ++ ((oC ob h h2) ++ ((mC cI cZ h a σ) ++ (mC cI cZ h2 a2 ρ_56)))) := hD
                    refine W.wide (k := (2 * i)) (n := (20 * i)) (by show (2 * i) + 0 ≤ (2 * i); omega) (by show (20 * i) + 0 ≤ (20 * i); omega) ?_
                    refine lv_aload_n hx hb dX2_isSame_244 rfl (lv_at hl 7 rfl) ?_
                    refine lv_iload hx hb dX2_isSame_245 (lv_at hl 10 rfl) ?_
                    refine MY.callV0 (C := RX2) (T := TX2) (N := 5) (As := [.int (nI i)]) (rest := [.int (reachS σ i)]) (w0 := []) (w2 := (oC ob h h2) ++ ((mC cI cZ h a σ) ++ (mC cI cZ h2 a2 ρ_56))) (wB := fun y => (sC cI cL sm q σ n k) ++ ((oC ob h h2) ++ ((mC cI cZ h a σ) ++ (mC cI cZ h2 a2 ρ_56)))) (c_X2_reaches l D cI cZ cL sm q σ hst i (by omega)) ⟨hx, hb, hml, hown, hts⟩ q500 b_X2_reaches (n := 1) (by decide +kernel) ⟨(Nat.le_of_ble_eq_true rfl), (Nat.le_of_ble_eq_true rfl)⟩ hK hP hD hS hA (EY.non hE) (by simp only [List.append_assoc, List.append_nil, List.nil_append]) (fun _ => by simp only [List.append_assoc, List.append_nil, List.nil_append]) (ci := 2) rfl rfl rfl hl.1 rfl (Nat.le_of_ble_eq_true rfl) dX2_isSame_247 ⟨by show (2 * i) + 1 ≤ 40; omega, by show (20 * i) + 10 ≤ 400; omega⟩ (fun y H locs hP hD hS => ?_)
                    have hP : va_P D vwCl ((sC cI cL sm q σ n k) ++ ((oC ob h h2) ++ ((mC cI cZ h a σ) ++ (mC cI cZ h2 a2 ρ_56)))) H := hP
                    have hD : va_D A ((sC cI cL sm q σ n k) ++ ((oC ob h h2) ++ ((mC cI cZ h a σ) ++ (mC cI cZ h2 a2 ρ_56)))) := hD
                    refine W.wide (k := ((2 * i) + 1)) (n := ((20 * i) + 10)) (by show (2 * i) + 1 ≤ ((2 * i) + 1); omega) (by show (20 * i) + 10 ≤ ((20 * i) + 10); omega) ?_
                    refine lv_icmp_eq (tgt := 255) hx hb dX2_isSame_250 (by decide) (fun c_250 => ?_) (fun z => absurd (rfl) z)
                    refine lv_iinc (v := (nI (i + 1))) (lv' := [(7, .int (nI (i + 1))), (5, .int (amax (fun q => σ 0 q + σ 2 q) (i + 1))), (4, .int (sumI (fun f => if σ 4 f = 0 then (0 : Int32) else 1) (i + 1))), (3, .int (sumI (fun f => isW σ f) (i + 1))), (2, .int (sumI (fun f => σ 2 f) (i + 1))), (11, .int (nI k)), (10, .ref q.1.2), (8, .ref (q.2.1 i)), (0, .ref sm), (1, .ref ob), (6, .int (-1)), (9, .int (sumI (fun d => opB σ i d) d)), (12, .int (nI d))]) hx hb dX2_isSame_255 hl (k := 10) rfl (nI_add i 1) (by decide) rfl (fun ls hl => ?_)
                    refine lv_goto (tgt := 16) hx hb dX2_isSame_258 (by decide) ?_
                    refine W.wide (k := 2 * (i + 1)) (n := 20 * (i + 1)) (by first | omega | exact Nat.le_of_ble_eq_true rfl) (by first | omega | exact Nat.le_of_ble_eq_true rfl) ?_
                    exact ih_16 (i + 1) ρ_56 (by omega) (by omega) _ _ _ hP hD hS (lv_sub hl [8, 9, 4, 3, 2, 1, 10, 0] rfl)
                · rw [hm] at hl
                  refine lv_iload hx hb dX2_isSame_140 (lv_at hl 8 rfl) ?_
                  refine lv_if_lt (tgt := 160) hx hb dX2_isSame_142 (by decide) (fun z => absurd z (Int32.not_lt.mpr (nI_pos' (by omega)))) (fun c_142 => ?_)
                  refine lv_aload_n hx hb dX2_isSame_145 rfl (lv_at hl 6 rfl) ?_
                  refine lv_iload hx hb dX2_isSame_146 (lv_at hl 10 rfl) ?_
                  refine MC.callV0 (C := RX2) (T := TX2) (N := 5) (As := [.int (nI i)]) (rest := []) (w0 := []) (w2 := (oC ob h h2) ++ ((mC cI cZ h a σ) ++ (mC cI cZ h2 a2 ρ))) (wB := (sC cI cL sm q σ n k) ++ ((oC ob h h2) ++ ((mC cI cZ h a σ) ++ (mC cI cZ h2 a2 ρ)))) (c_X2_level l D cI cZ cL sm q σ hst i (by omega)) ⟨hx, hb, hml, hown, hts⟩ q471 b_X2_level (n := 1) (by decide +kernel) ⟨(Nat.le_of_ble_eq_true rfl), (Nat.le_of_ble_eq_true rfl)⟩ hK hP hD hS hA rfl rfl (ci := 2) rfl rfl rfl hl.1 rfl (Nat.le_of_ble_eq_true rfl) dX2_isSame_148 ⟨by show (2 * i) + 0 ≤ 40; omega, by show (20 * i) + 0 ≤ 400; omega⟩ (fun H locs hP hD hS => ?_)
                  refine W.wide (k := (2 * i)) (n := (20 * i)) (by show (2 * i) + 0 ≤ (2 * i); omega) (by show (20 * i) + 0 ≤ (20 * i); omega) ?_
                  refine lv_aload_n hx hb dX2_isSame_151 rfl (lv_at hl 6 rfl) ?_
                  refine lv_iload hx hb dX2_isSame_152 (lv_at hl 8 rfl) ?_
                  refine MC.callV0 (C := RX2) (T := TX2) (N := 5) (As := [.int (nI jm)]) (rest := [.int (σ 0 i + σ 2 i)]) (w0 := []) (w2 := (oC ob h h2) ++ ((mC cI cZ h a σ) ++ (mC cI cZ h2 a2 ρ))) (wB := (sC cI cL sm q σ n k) ++ ((oC ob h h2) ++ ((mC cI cZ h a σ) ++ (mC cI cZ h2 a2 ρ)))) (c_X2_level l D cI cZ cL sm q σ hst jm (by omega)) ⟨hx, hb, hml, hown, hts⟩ q471 b_X2_level (n := 1) (by decide +kernel) ⟨(Nat.le_of_ble_eq_true rfl), (Nat.le_of_ble_eq_true rfl)⟩ hK hP hD hS hA rfl rfl (ci := 2) rfl rfl rfl hl.1 rfl (Nat.le_of_ble_eq_true rfl) dX2_isSame_154 ⟨by show (2 * i) + 0 ≤ 40; omega, by show (20 * i) + 0 ≤ 400; omega⟩ (fun H locs hP hD hS => ?_)
                  refine W.wide (k := (2 * i)) (n := (20 * i)) (by show (2 * i) + 0 ≤ (2 * i); omega) (by show (20 * i) + 0 ≤ (20 * i); omega) ?_
                  refine lv_icmp_le (tgt := 164) hx hb dX2_isSame_157 (by decide) (fun c_157 => ?_) (fun c_157 => ?_)
                  · have e6 : (nI jm) = amax (fun q => σ 0 q + σ 2 q) (i + 1) := amax_c3 (f := (fun q => σ 0 q + σ 2 q)) hm (by omega) c_157
                    have hl : lv_has ls 14 [(4, .int (sumI (fun f => if σ 4 f = 0 then (0 : Int32) else 1) (i + 1))), (3, .int (sumI (fun f => isW σ f) (i + 1))), (2, .int (sumI (fun f => σ 2 f) (i + 1))), (11, .int (nI k)), (10, .ref q.1.2), (8, .ref (q.2.1 i)), (0, .ref sm), (1, .ref ob), (5, .int (amax (fun q => σ 0 q + σ 2 q) (i + 1))), (6, .int (-1)), (7, .int (nI i)), (9, .int (sumI (fun d => opB σ i d) d)), (12, .int (nI d))] := by rw [← e6]; exact hl
                    refine lv_aload_n hx hb dX2_isSame_164 rfl (lv_at hl 7 rfl) ?_
                    refine lv_iload hx hb dX2_isSame_165 (lv_at hl 10 rfl) ?_
                    refine MX.callV0 (C := RX1) (T := TX1) (N := 2) (As := [.int (nI i)]) (rest := []) (w0 := sC cI cL sm q σ n k) (w2 := []) (wB := fun ρ => (sC cI cL sm q σ n k) ++ ((oC ob h h2) ++ ((mC cI cZ h a σ) ++ (mC cI cZ h2 a2 ρ)))) (c_X1_waterOn l D cI cZ cL ob h a h2 a2 σ ρ hst i (by omega)) ⟨hx, hb, hml, hown, hts⟩ q494 b_X1_waterOn (n := 1) (by decide +kernel) ⟨(Nat.le_of_ble_eq_true rfl), (Nat.le_of_ble_eq_true rfl)⟩ hK hP hD hS hA hE (by rw [List.append_nil]) (fun _ => by rw [List.append_nil]) (ci := 1) rfl rfl rfl hl.1 rfl (Nat.le_of_ble_eq_true rfl) dX2_isSame_167 ⟨by show (2 * i) + 0 ≤ 40; omega, by show (20 * i) + 0 ≤ 400; omega⟩ (fun ρ_57 H locs hP hD hS => ?_)
                    have hP : va_P D vwCl ((sC cI cL sm q σ n k) ++ ((oC ob h h2) ++ ((mC cI cZ h a σ) ++ (mC cI cZ h2 a2 ρ_57)))) H := hP
                    have hD : va_D A ((sC cI cL sm q σ n k) ++ ((oC ob h h2) ++ ((mC cI cZ h a σ) ++ (mC cI cZ h2 a2 ρ_57)))) := hD
                    refine W.wide (k := (2 * i)) (n := (20 * i)) (by show (2 * i) + 0 ≤ (2 * i); omega) (by show (20 * i) + 0 ≤ (20 * i); omega) ?_
                    refine lv_aload hx hb dX2_isSame_170 (lv_at hl 5 rfl) ?_
                    refine lv_iconst (v := 2) hx hb dX2_isSame_172 (by decide) ?_
                    refine s_ldF hx hb hK hP (σ := σ) (n := n) (k := k) (q := q) (sm := sm) (w0 := []) (w2 := (oC ob h h2) ++ ((mC cI cZ h a σ) ++ (mC cI cZ h2 a2 ρ_57))) rfl i (by omega) 2 rfl (by decide) (v := σ 2 i) rfl dX2_isSame_173 ?_
                    refine lv_icmp_ne (tgt := 253) hx hb dX2_isSame_174 (by decide) (fun z => absurd (rfl) z) (fun c_174 => ?_)
                    refine lv_aload_n hx hb dX2_isSame_177 rfl (lv_at hl 7 rfl) ?_
                    refine lv_iload hx hb dX2_isSame_178 (lv_at hl 10 rfl) ?_
                    refine MX.callV0 (C := RX1) (T := TX1) (N := 2) (As := [.int (nI i)]) (rest := []) (w0 := sC cI cL sm q σ n k) (w2 := []) (wB := fun ρ => (sC cI cL sm q σ n k) ++ ((oC ob h h2) ++ ((mC cI cZ h a σ) ++ (mC cI cZ h2 a2 ρ)))) (c_X1_levelOf l D cI cZ cL ob h a h2 a2 σ ρ_57 hst i (by omega)) ⟨hx, hb, hml, hown, hts⟩ q495 b_X1_levelOf (n := 1) (by decide +kernel) ⟨(Nat.le_of_ble_eq_true rfl), (Nat.le_of_ble_eq_true rfl)⟩ hK hP hD hS hA hE (by rw [List.append_nil]) (fun _ => by rw [List.append_nil]) (ci := 1) rfl rfl rfl hl.1 rfl (Nat.le_of_ble_eq_true rfl) dX2_isSame_180 ⟨by show (2 * i) + 0 ≤ 40; omega, by show (20 * i) + 0 ≤ 400; omega⟩ (fun ρ_58 H locs hP hD hS => ?_)
                    have hP : va_P D vwCl ((sC cI cL sm q σ n k) ++ ((oC ob h h2) ++ ((mC cI cZ h a σ) ++ (mC cI cZ h2 a2 ρ_58)))) H := hP
                    have hD : va_D A ((sC cI cL sm q σ n k) ++ ((oC ob h h2) ++ ((mC cI cZ h a σ) ++ (mC cI cZ h2 a2 ρ_58)))) := hD
                    refine W.wide (k := (2 * i)) (n := (20 * i)) (by show (2 * i) + 0 ≤ (2 * i); omega) (by show (20 * i) + 0 ≤ (20 * i); omega) ?_
                    refine lv_aload_n hx hb dX2_isSame_183 rfl (lv_at hl 6 rfl) ?_
                    refine lv_iload hx hb dX2_isSame_184 (lv_at hl 10 rfl) ?_
                    refine MC.callV0 (C := RX2) (T := TX2) (N := 5) (As := [.int (nI i)]) (rest := [.int (σ 0 i + σ 2 i)]) (w0 := []) (w2 := (oC ob h h2) ++ ((mC cI cZ h a σ) ++ (mC cI cZ h2 a2 ρ_58))) (wB := (sC cI cL sm q σ n k) ++ ((oC ob h h2) ++ ((mC cI cZ h a σ) ++ (mC cI cZ h2 a2 ρ_58)))) (c_X2_level l D cI cZ cL sm q σ hst i (by omega)) ⟨hx, hb, hml, hown, hts⟩ q471 b_X2_level (n := 1) (by decide +kernel) ⟨(Nat.le_of_ble_eq_true rfl), (Nat.le_of_ble_eq_true rfl)⟩ hK hP hD hS hA rfl rfl (ci := 2) rfl rfl rfl hl.1 rfl (Nat.le_of_ble_eq_true rfl) dX2_isSame_186 ⟨by show (2 * i) + 0 ≤ 40; omega, by show (20 * i) + 0 ≤ 400; omega⟩ (fun H locs hP hD hS => ?_)
                    refine W.wide (k := (2 * i)) (n := (20 * i)) (by show (2 * i) + 0 ≤ (2 * i); omega) (by show (20 * i) + 0 ≤ (20 * i); omega) ?_
                    refine lv_icmp_ne (tgt := 253) hx hb dX2_isSame_189 (by decide) (fun z => absurd (rfl) z) (fun c_189 => ?_)
                    refine lv_aload_n hx hb dX2_isSame_192 rfl (lv_at hl 7 rfl) ?_
                    refine lv_iload hx hb dX2_isSame_193 (lv_at hl 10 rfl) ?_
                    refine MX.callV0 (C := RX1) (T := TX1) (N := 2) (As := [.int (nI i)]) (rest := []) (w0 := sC cI cL sm q σ n k) (w2 := []) (wB := fun ρ => (sC cI cL sm q σ n k) ++ ((oC ob h h2) ++ ((mC cI cZ h a σ) ++ (mC cI cZ h2 a2 ρ)))) (c_X1_wetFor l D cI cZ cL ob h a h2 a2 σ ρ_58 hst i (by omega)) ⟨hx, hb, hml, hown, hts⟩ q496 b_X1_wetFor (n := 1) (by decide +kernel) ⟨(Nat.le_of_ble_eq_true rfl), (Nat.le_of_ble_eq_true rfl)⟩ hK hP hD hS hA hE (by rw [List.append_nil]) (fun _ => by rw [List.append_nil]) (ci := 1) rfl rfl rfl hl.1 rfl (Nat.le_of_ble_eq_true rfl) dX2_isSame_195 ⟨by show (2 * i) + 0 ≤ 40; omega, by show (20 * i) + 0 ≤ 400; omega⟩ (fun ρ_59 H locs hP hD hS => ?_)
                    have hP : va_P D vwCl ((sC cI cL sm q σ n k) ++ ((oC ob h h2) ++ ((mC cI cZ h a σ) ++ (mC cI cZ h2 a2 ρ_59)))) H := hP
                    have hD : va_D A ((sC cI cL sm q σ n k) ++ ((oC ob h h2) ++ ((mC cI cZ h a σ) ++ (mC cI cZ h2 a2 ρ_59)))) := hD
                    refine W.wide (k := (2 * i)) (n := (20 * i)) (by show (2 * i) + 0 ≤ (2 * i); omega) (by show (20 * i) + 0 ≤ (20 * i); omega) ?_
                    refine lv_aload hx hb dX2_isSame_198 (lv_at hl 5 rfl) ?_
                    refine lv_iconst (v := 3) hx hb dX2_isSame_200 (by decide) ?_
                    refine s_ldF hx hb hK hP (σ := σ) (n := n) (k := k) (q := q) (sm := sm) (w0 := []) (w2 := (oC ob h h2) ++ ((mC cI cZ h a σ) ++ (mC cI cZ h2 a2 ρ_59))) rfl i (by omega) 3 rfl (by decide) (v := σ 3 i) rfl dX2_isSame_201 ?_
                    refine lv_icmp_ne (tgt := 253) hx hb dX2_isSame_202 (by decide) (fun z => absurd (rfl) z) (fun c_202 => ?_)
                    refine lv_aload_n hx hb dX2_isSame_205 rfl (lv_at hl 7 rfl) ?_
                    refine lv_iload hx hb dX2_isSame_206 (lv_at hl 10 rfl) ?_
                    refine MX.callV0 (C := RX1) (T := TX1) (N := 2) (As := [.int (nI i)]) (rest := []) (w0 := sC cI cL sm q σ n k) (w2 := []) (wB := fun ρ => (sC cI cL sm q σ n k) ++ ((oC ob h h2) ++ ((mC cI cZ h a σ) ++ (mC cI cZ h2 a2 ρ)))) (c_X1_isRuined l D cI cZ cL ob h a h2 a2 σ ρ_59 hst hB i (by omega)) ⟨hx, hb, hml, hown, hts⟩ q497 b_X1_isRuined (n := 1) (by decide +kernel) ⟨(Nat.le_of_ble_eq_true rfl), (Nat.le_of_ble_eq_true rfl)⟩ hK hP hD hS hA hE (by rw [List.append_nil]) (fun _ => by rw [List.append_nil]) (ci := 1) rfl rfl rfl hl.1 rfl (Nat.le_of_ble_eq_true rfl) dX2_isSame_208 ⟨by show (2 * i) + 0 ≤ 40; omega, by show (20 * i) + 0 ≤ 400; omega⟩ (fun ρ_60 H locs hP hD hS => ?_)
                    have hP : va_P D vwCl ((sC cI cL sm q σ n k) ++ ((oC ob h h2) ++ ((mC cI cZ h a σ) ++ (mC cI cZ h2 a2 ρ_60)))) H := hP
                    have hD : va_D A ((sC cI cL sm q σ n k) ++ ((oC ob h h2) ++ ((mC cI cZ h a σ) ++ (mC cI cZ h2 a2 ρ_60)))) := hD
                    refine W.wide (k := (2 * i)) (n := (20 * i)) (by show (2 * i) + 0 ≤ (2 * i); omega) (by show (20 * i) + 0 ≤ (20 * i); omega) ?_
                    refine lv_aload hx hb dX2_isSame_211 (lv_at hl 5 rfl) ?_
                    refine lv_iconst (v := 4) hx hb dX2_isSame_213 (by decide) ?_
                    refine s_ldF hx hb hK hP (σ := σ) (n := n) (k := k) (q := q) (sm := sm) (w0 := []) (w2 := (oC ob h h2) ++ ((mC cI cZ h a σ) ++ (mC cI cZ h2 a2 ρ_60))) rfl i (by omega) 4 rfl (by decide) (v := σ 4 i) rfl dX2_isSame_214 ?_
                    refine lv_iconst (v := 1) hx hb dX2_isSame_215 (by decide) ?_
                    refine lv_icmp_ne (tgt := 223) hx hb dX2_isSame_216 (by decide) (fun c_216 => ?_) (fun c_216 => ?_)
                    · refine lv_iconst (v := 0) hx hb dX2_isSame_223 (by decide) ?_
                      refine lv_icmp_ne (tgt := 253) hx hb dX2_isSame_224 (by decide) (fun z => absurd (b01_0 (hB.2.2.2.2.1 i (by omega)) c_216) z) (fun c_224 => ?_)
                      refine lv_aload_n hx hb dX2_isSame_227 rfl (lv_at hl 7 rfl) ?_
                      refine lv_iload hx hb dX2_isSame_228 (lv_at hl 10 rfl) ?_
                      refine MX.callV0 (C := RX1) (T := TX1) (N := 2) (As := [.int (nI i)]) (rest := []) (w0 := sC cI cL sm q σ n k) (w2 := []) (wB := fun ρ => (sC cI cL sm q σ n k) ++ ((oC ob h h2) ++ ((mC cI cZ h a σ) ++ (mC cI cZ h2 a2 ρ)))) (c_X1_drainsAt l D cI cZ cL ob h a h2 a2 σ ρ_60 hst i (by omega)) ⟨hx, hb, hml, hown, hts⟩ q498 b_X1_drainsAt (n := 1) (by decide +kernel) ⟨(Nat.le_of_ble_eq_true rfl), (Nat.le_of_ble_eq_true rfl)⟩ hK hP hD hS hA hE (by rw [List.append_nil]) (fun _ => by rw [List.append_nil]) (ci := 1) rfl rfl rfl hl.1 rfl (Nat.le_of_ble_eq_true rfl) dX2_isSame_230 ⟨by show (2 * i) + 0 ≤ 40; omega, by show (20 * i) + 0 ≤ 400; omega⟩ (fun ρ_61 H locs hP hD hS => ?_)
                      have hP : va_P D vwCl ((sC cI cL sm q σ n k) ++ ((oC ob h h2) ++ ((mC cI cZ h a σ) ++ (mC cI cZ h2 a2 ρ_61)))) H := hP
                      have hD : va_D A ((sC cI cL sm q σ n k) ++ ((oC ob h h2) ++ ((mC cI cZ h a σ) ++ (mC cI cZ h2 a2 ρ_61)))) := hD
                      refine W.wide (k := (2 * i)) (n := (20 * i)) (by show (2 * i) + 0 ≤ (2 * i); omega) (by show (20 * i) + 0 ≤ (20 * i); omega) ?_
                      refine lv_iload hx hb dX2_isSame_233 (lv_at hl 11 rfl) ?_
                      refine lv_icmp_ne (tgt := 253) hx hb dX2_isSame_235 (by decide) (fun z => absurd (by unfold openS; rw [hst.eD, show k = d by omega]) z) (fun c_235 => ?_)
                      refine lv_aload_n hx hb dX2_isSame_238 rfl (lv_at hl 7 rfl) ?_
                      refine lv_iload hx hb dX2_isSame_239 (lv_at hl 10 rfl) ?_
                      refine MX.callV0 (C := RX1) (T := TX1) (N := 2) (As := [.int (nI i)]) (rest := []) (w0 := sC cI cL sm q σ n k) (w2 := []) (wB := fun ρ => (sC cI cL sm q σ n k) ++ ((oC ob h h2) ++ ((mC cI cZ h a σ) ++ (mC cI cZ h2 a2 ρ)))) (c_X1_reaches l D cI cZ cL ob h a h2 a2 σ ρ_61 hst i (by omega)) ⟨hx, hb, hml, hown, hts⟩ q499 b_X1_reaches (n := 1) (by decide +kernel) ⟨(Nat.le_of_ble_eq_true rfl), (Nat.le_of_ble_eq_true rfl)⟩ hK hP hD hS hA hE (by rw [List.append_nil]) (fun _ => by rw [List.append_nil]) (ci := 1) rfl rfl rfl hl.1 rfl (Nat.le_of_ble_eq_true rfl) dX2_isSame_241 ⟨by show (2 * i) + 0 ≤ 40; omega, by show (20 * i) + 0 ≤ 400; omega⟩ (fun ρ_62 H locs hP hD hS => ?_)
                      have hP : va_P D vwCl ((sC cI cL sm q σ n k) ++ ((oC ob h h2) ++ ((mC cI cZ h a σ) ++ (mC cI cZ h2 a2 ρ_62)))) H := hP
                      have hD : va_D A ((sC cI cL sm q σ n k) ++ ((oC ob h h2) ++ ((mC cI cZ h a σ) ++ (mC cI cZ h2 a2 ρ_62)))) := hD
                      refine W.wide (k := (2 * i)) (n := (20 * i)) (by show (2 * i) + 0 ≤ (2 * i); omega) (by show (20 * i) + 0 ≤ (20 * i); omega) ?_
                      refine lv_aload_n hx hb dX2_isSame_244 rfl (lv_at hl 6 rfl) ?_
                      refine lv_iload hx hb dX2_isSame_245 (lv_at hl 10 rfl) ?_
                      refine MY.callV0 (C := RX2) (T := TX2) (N := 5) (As := [.int (nI i)]) (rest := [.int (reachS σ i)]) (w0 := []) (w2 := (oC ob h h2) ++ ((mC cI cZ h a σ) ++ (mC cI cZ h2 a2 ρ_62))) (wB := fun y => (sC cI cL sm q σ n k) ++ ((oC ob h h2) ++ ((mC cI cZ h a σ) ++ (mC cI cZ h2 a2 ρ_62)))) (c_X2_reaches l D cI cZ cL sm q σ hst i (by omega)) ⟨hx, hb, hml, hown, hts⟩ q500 b_X2_reaches (n := 1) (by decide +kernel) ⟨(Nat.le_of_ble_eq_true rfl), (Nat.le_of_ble_eq_true rfl)⟩ hK hP hD hS hA (EY.non hE) (by simp only [List.append_assoc, List.append_nil, List.nil_append]) (fun _ => by simp only [List.append_assoc, List.append_nil, List.nil_append]) (ci := 2) rfl rfl rfl hl.1 rfl (Nat.le_of_ble_eq_true rfl) dX2_isSame_247 ⟨by show (2 * i) + 1 ≤ 40; omega, by show (20 * i) + 10 ≤ 400; omega⟩ (fun y H locs hP hD hS => ?_)
                      have hP : va_P D vwCl ((sC cI cL sm q σ n k) ++ ((oC ob h h2) ++ ((mC cI cZ h a σ) ++ (mC cI cZ h2 a2 ρ_62)))) H := hP
                      have hD : va_D A ((sC cI cL sm q σ n k) ++ ((oC ob h h2) ++ ((mC cI cZ h a σ) ++ (mC cI cZ h2 a2 ρ_62)))) := hD
                      refine W.wide (k := ((2 * i) + 1)) (n := ((20 * i) + 10)) (by show (2 * i) + 1 ≤ ((2 * i) + 1); omega) (by show (20 * i) + 10 ≤ ((20 * i) + 10); omega) ?_
                      refine lv_icmp_eq (tgt := 255) hx hb dX2_isSame_250 (by decide) (fun c_250 => ?_) (fun z => absurd (rfl) z)
                      refine lv_iinc (v := (nI (i + 1))) (lv' := [(7, .int (nI (i + 1))), (4, .int (sumI (fun f => if σ 4 f = 0 then (0 : Int32) else 1) (i + 1))), (3, .int (sumI (fun f => isW σ f) (i + 1))), (2, .int (sumI (fun f => σ 2 f) (i + 1))), (11, .int (nI k)), (10, .ref q.1.2), (8, .ref (q.2.1 i)), (0, .ref sm), (1, .ref ob), (5, .int (amax (fun q => σ 0 q + σ 2 q) (i + 1))), (6, .int (-1)), (9, .int (sumI (fun d => opB σ i d) d)), (12, .int (nI d))]) hx hb dX2_isSame_255 hl (k := 10) rfl (nI_add i 1) (by decide) rfl (fun ls hl => ?_)
                      refine lv_goto (tgt := 16) hx hb dX2_isSame_258 (by decide) ?_
                      refine W.wide (k := 2 * (i + 1)) (n := 20 * (i + 1)) (by first | omega | exact Nat.le_of_ble_eq_true rfl) (by first | omega | exact Nat.le_of_ble_eq_true rfl) ?_
                      exact ih_16 (i + 1) ρ_62 (by omega) (by omega) _ _ _ hP hD hS (lv_sub hl [7, 8, 3, 2, 1, 9, 10, 0] rfl)
                    · refine lv_iconst (v := 1) hx hb dX2_isSame_219 (by decide) ?_
                      refine lv_goto (tgt := 224) hx hb dX2_isSame_220 (by decide) ?_
                      refine lv_icmp_ne (tgt := 253) hx hb dX2_isSame_224 (by decide) (fun z => absurd (c_216) z) (fun c_224 => ?_)
                      refine lv_aload_n hx hb dX2_isSame_227 rfl (lv_at hl 7 rfl) ?_
                      refine lv_iload hx hb dX2_isSame_228 (lv_at hl 10 rfl) ?_
                      refine MX.callV0 (C := RX1) (T := TX1) (N := 2) (As := [.int (nI i)]) (rest := []) (w0 := sC cI cL sm q σ n k) (w2 := []) (wB := fun ρ => (sC cI cL sm q σ n k) ++ ((oC ob h h2) ++ ((mC cI cZ h a σ) ++ (mC cI cZ h2 a2 ρ)))) (c_X1_drainsAt l D cI cZ cL ob h a h2 a2 σ ρ_60 hst i (by omega)) ⟨hx, hb, hml, hown, hts⟩ q498 b_X1_drainsAt (n := 1) (by decide +kernel) ⟨(Nat.le_of_ble_eq_true rfl), (Nat.le_of_ble_eq_true rfl)⟩ hK hP hD hS hA hE (by rw [List.append_nil]) (fun _ => by rw [List.append_nil]) (ci := 1) rfl rfl rfl hl.1 rfl (Nat.le_of_ble_eq_true rfl) dX2_isSame_230 ⟨by show (2 * i) + 0 ≤ 40; omega, by show (20 * i) + 0 ≤ 400; omega⟩ (fun ρ_63 H locs hP hD hS => ?_)
                      have hP : va_P D vwCl ((sC cI cL sm q σ n k) ++ ((oC ob h h2) ++ ((mC cI cZ h a σ) ++ (mC cI cZ h2 a2 ρ_63)))) H := hP
                      have hD : va_D A ((sC cI cL sm q σ n k) ++ ((oC ob h h2) ++ ((mC cI cZ h a σ) ++ (mC cI cZ h2 a2 ρ_63)))) := hD
                      refine W.wide (k := (2 * i)) (n := (20 * i)) (by show (2 * i) + 0 ≤ (2 * i); omega) (by show (20 * i) + 0 ≤ (20 * i); omega) ?_
                      refine lv_iload hx hb dX2_isSame_233 (lv_at hl 11 rfl) ?_
                      refine lv_icmp_ne (tgt := 253) hx hb dX2_isSame_235 (by decide) (fun z => absurd (by unfold openS; rw [hst.eD, show k = d by omega]) z) (fun c_235 => ?_)
                      refine lv_aload_n hx hb dX2_isSame_238 rfl (lv_at hl 7 rfl) ?_
                      refine lv_iload hx hb dX2_isSame_239 (lv_at hl 10 rfl) ?_
                      refine MX.callV0 (C := RX1) (T := TX1) (N := 2) (As := [.int (nI i)]) (rest := []) (w0 := sC cI cL sm q σ n k) (w2 := []) (wB := fun ρ => (sC cI cL sm q σ n k) ++ ((oC ob h h2) ++ ((mC cI cZ h a σ) ++ (mC cI cZ h2 a2 ρ)))) (c_X1_reaches l D cI cZ cL ob h a h2 a2 σ ρ_63 hst i (by omega)) ⟨hx, hb, hml, hown, hts⟩ q499 b_X1_reaches (n := 1) (by decide +kernel) ⟨(Nat.le_of_ble_eq_true rfl), (Nat.le_of_ble_eq_true rfl)⟩ hK hP hD hS hA hE (by rw [List.append_nil]) (fun _ => by rw [List.append_nil]) (ci := 1) rfl rfl rfl hl.1 rfl (Nat.le_of_ble_eq_true rfl) dX2_isSame_241 ⟨by show (2 * i) + 0 ≤ 40; omega, by show (20 * i) + 0 ≤ 400; omega⟩ (fun ρ_64 H locs hP hD hS => ?_)
                      have hP : va_P D vwCl ((sC cI cL sm q σ n k) ++ ((oC ob h h2) ++ ((mC cI cZ h a σ) ++ (mC cI cZ h2 a2 ρ_64)))) H := hP
                      have hD : va_D A ((sC cI cL sm q σ n k) ++ ((oC ob h h2) ++ ((mC cI cZ h a σ) ++ (mC cI cZ h2 a2 ρ_64)))) := hD
                      refine W.wide (k := (2 * i)) (n := (20 * i)) (by show (2 * i) + 0 ≤ (2 * i); omega) (by show (20 * i) + 0 ≤ (20 * i); omega) ?_
                      refine lv_aload_n hx hb dX2_isSame_244 rfl (lv_at hl 6 rfl) ?_
                      refine lv_iload hx hb dX2_isSame_245 (lv_at hl 10 rfl) ?_
                      refine MY.callV0 (C := RX2) (T := TX2) (N := 5) (As := [.int (nI i)]) (rest := [.int (reachS σ i)]) (w0 := []) (w2 := (oC ob h h2) ++ ((mC cI cZ h a σ) ++ (mC cI cZ h2 a2 ρ_64))) (wB := fun y => (sC cI cL sm q σ n k) ++ ((oC ob h h2) ++ ((mC cI cZ h a σ) ++ (mC cI cZ h2 a2 ρ_64)))) (c_X2_reaches l D cI cZ cL sm q σ hst i (by omega)) ⟨hx, hb, hml, hown, hts⟩ q500 b_X2_reaches (n := 1) (by decide +kernel) ⟨(Nat.le_of_ble_eq_true rfl), (Nat.le_of_ble_eq_true rfl)⟩ hK hP hD hS hA (EY.non hE) (by simp only [List.append_assoc, List.append_nil, List.nil_append]) (fun _ => by simp only [List.append_assoc, List.append_nil, List.nil_append]) (ci := 2) rfl rfl rfl hl.1 rfl (Nat.le_of_ble_eq_true rfl) dX2_isSame_247 ⟨by show (2 * i) + 1 ≤ 40; omega, by show (20 * i) + 10 ≤ 400; omega⟩ (fun y H locs hP hD hS => ?_)
                      have hP : va_P D vwCl ((sC cI cL sm q σ n k) ++ ((oC ob h h2) ++ ((mC cI cZ h a σ) ++ (mC cI cZ h2 a2 ρ_64)))) H := hP
                      have hD : va_D A ((sC cI cL sm q σ n k) ++ ((oC ob h h2) ++ ((mC cI cZ h a σ) ++ (mC cI cZ h2 a2 ρ_64)))) := hD
                      refine W.wide (k := ((2 * i) + 1)) (n := ((20 * i) + 10)) (by show (2 * i) + 1 ≤ ((2 * i) + 1); omega) (by show (20 * i) + 10 ≤ ((20 * i) + 10); omega) ?_
                      refine lv_icmp_eq (tgt := 255) hx hb dX2_isSame_250 (by decide) (fun c_250 => ?_) (fun z => absurd (rfl) z)
                      refine lv_iinc (v := (nI (i + 1))) (lv' := [(7, .int (nI (i + 1))), (4, .int (sumI (fun f => if σ 4 f = 0 then (0 : Int32) else 1) (i + 1))), (3, .int (sumI (fun f => isW σ f) (i + 1))), (2, .int (sumI (fun f => σ 2 f) (i + 1))), (11, .int (nI k)), (10, .ref q.1.2), (8, .ref (q.2.1 i)), (0, .ref sm), (1, .ref ob), (5, .int (amax (fun q => σ 0 q + σ 2 q) (i + 1))), (6, .int (-1)), (9, .int (sumI (fun d => opB σ i d) d)), (12, .int (nI d))]) hx hb dX2_isSame_255 hl (k := 10) rfl (nI_add i 1) (by decide) rfl (fun ls hl => ?_)
                      refine lv_goto (tgt := 16) hx hb dX2_isSame_258 (by decide) ?_
                      refine W.wide (k := 2 * (i + 1)) (n := 20 * (i + 1)) (by first | omega | exact Nat.le_of_ble_eq_true rfl) (by first | omega | exact Nat.le_of_ble_eq_true rfl) ?_
                      exact ih_16 (i + 1) ρ_64 (by omega) (by omega) _ _ _ hP hD hS (lv_sub hl [7, 8, 3, 2, 1, 9, 10, 0] rfl)
                  · refine lv_iload hx hb dX2_isSame_160 (lv_at hl 10 rfl) ?_
                    refine lv_istore (lv' := [(5, .int (nI i)), (4, .int (sumI (fun f => if σ 4 f = 0 then (0 : Int32) else 1) (i + 1))), (3, .int (sumI (fun f => isW σ f) (i + 1))), (2, .int (sumI (fun f => σ 2 f) (i + 1))), (11, .int (nI k)), (10, .ref q.1.2), (8, .ref (q.2.1 i)), (0, .ref sm), (1, .ref ob), (6, .int (-1)), (7, .int (nI i)), (9, .int (sumI (fun d => opB σ i d) d)), (12, .int (nI d))]) hx hb dX2_isSame_162 hl (by decide) rfl (fun ls hl => ?_)
                    have e6 : (nI i) = amax (fun q => σ 0 q + σ 2 q) (i + 1) := amax_c2 (f := (fun q => σ 0 q + σ 2 q)) hm (by omega) c_157
                    have hl : lv_has ls 14 [(5, .int (amax (fun q => σ 0 q + σ 2 q) (i + 1))), (4, .int (sumI (fun f => if σ 4 f = 0 then (0 : Int32) else 1) (i + 1))), (3, .int (sumI (fun f => isW σ f) (i + 1))), (2, .int (sumI (fun f => σ 2 f) (i + 1))), (11, .int (nI k)), (10, .ref q.1.2), (8, .ref (q.2.1 i)), (0, .ref sm), (1, .ref ob), (6, .int (-1)), (7, .int (nI i)), (9, .int (sumI (fun d => opB σ i d) d)), (12, .int (nI d))] := by rw [← e6]; exact hl
                    refine lv_aload_n hx hb dX2_isSame_164 rfl (lv_at hl 8 rfl) ?_
                    refine lv_iload hx hb dX2_isSame_165 (lv_at hl 10 rfl) ?_
                    refine MX.callV0 (C := RX1) (T := TX1) (N := 2) (As := [.int (nI i)]) (rest := []) (w0 := sC cI cL sm q σ n k) (w2 := []) (wB := fun ρ => (sC cI cL sm q σ n k) ++ ((oC ob h h2) ++ ((mC cI cZ h a σ) ++ (mC cI cZ h2 a2 ρ)))) (c_X1_waterOn l D cI cZ cL ob h a h2 a2 σ ρ hst i (by omega)) ⟨hx, hb, hml, hown, hts⟩ q494 b_X1_waterOn (n := 1) (by decide +kernel) ⟨(Nat.le_of_ble_eq_true rfl), (Nat.le_of_ble_eq_true rfl)⟩ hK hP hD hS hA hE (by rw [List.append_nil]) (fun _ => by rw [List.append_nil]) (ci := 1) rfl rfl rfl hl.1 rfl (Nat.le_of_ble_eq_true rfl) dX2_isSame_167 ⟨by show (2 * i) + 0 ≤ 40; omega, by show (20 * i) + 0 ≤ 400; omega⟩ (fun ρ_65 H locs hP hD hS => ?_)
                    have hP : va_P D vwCl ((sC cI cL sm q σ n k) ++ ((oC ob h h2) ++ ((mC cI cZ h a σ) ++ (mC cI cZ h2 a2 ρ_65)))) H := hP
                    have hD : va_D A ((sC cI cL sm q σ n k) ++ ((oC ob h h2) ++ ((mC cI cZ h a σ) ++ (mC cI cZ h2 a2 ρ_65)))) := hD
                    refine W.wide (k := (2 * i)) (n := (20 * i)) (by show (2 * i) + 0 ≤ (2 * i); omega) (by show (20 * i) + 0 ≤ (20 * i); omega) ?_
                    refine lv_aload hx hb dX2_isSame_170 (lv_at hl 6 rfl) ?_
                    refine lv_iconst (v := 2) hx hb dX2_isSame_172 (by decide) ?_
                    refine s_ldF hx hb hK hP (σ := σ) (n := n) (k := k) (q := q) (sm := sm) (w0 := []) (w2 := (oC ob h h2) ++ ((mC cI cZ h a σ) ++ (mC cI cZ h2 a2 ρ_65))) rfl i (by omega) 2 rfl (by decide) (v := σ 2 i) rfl dX2_isSame_173 ?_
                    refine lv_icmp_ne (tgt := 253) hx hb dX2_isSame_174 (by decide) (fun z => absurd (rfl) z) (fun c_174 => ?_)
                    refine lv_aload_n hx hb dX2_isSame_177 rfl (lv_at hl 8 rfl) ?_
                    refine lv_iload hx hb dX2_isSame_178 (lv_at hl 10 rfl) ?_
                    refine MX.callV0 (C := RX1) (T := TX1) (N := 2) (As := [.int (nI i)]) (rest := []) (w0 := sC cI cL sm q σ n k) (w2 := []) (wB := fun ρ => (sC cI cL sm q σ n k) ++ ((oC ob h h2) ++ ((mC cI cZ h a σ) ++ (mC cI cZ h2 a2 ρ)))) (c_X1_levelOf l D cI cZ cL ob h a h2 a2 σ ρ_65 hst i (by omega)) ⟨hx, hb, hml, hown, hts⟩ q495 b_X1_levelOf (n := 1) (by decide +kernel) ⟨(Nat.le_of_ble_eq_true rfl), (Nat.le_of_ble_eq_true rfl)⟩ hK hP hD hS hA hE (by rw [List.append_nil]) (fun _ => by rw [List.append_nil]) (ci := 1) rfl rfl rfl hl.1 rfl (Nat.le_of_ble_eq_true rfl) dX2_isSame_180 ⟨by show (2 * i) + 0 ≤ 40; omega, by show (20 * i) + 0 ≤ 400; omega⟩ (fun ρ_66 H locs hP hD hS => ?_)
                    have hP : va_P D vwCl ((sC cI cL sm q σ n k) ++ ((oC ob h h2) ++ ((mC cI cZ h a σ) ++ (mC cI cZ h2 a2 ρ_66)))) H := hP
                    have hD : va_D A ((sC cI cL sm q σ n k) ++ ((oC ob h h2) ++ ((mC cI cZ h a σ) ++ (mC cI cZ h2 a2 ρ_66)))) := hD
                    refine W.wide (k := (2 * i)) (n := (20 * i)) (by show (2 * i) + 0 ≤ (2 * i); omega) (by show (20 * i) + 0 ≤ (20 * i); omega) ?_
                    refine lv_aload_n hx hb dX2_isSame_183 rfl (lv_at hl 7 rfl) ?_
                    refine lv_iload hx hb dX2_isSame_184 (lv_at hl 10 rfl) ?_
                    refine MC.callV0 (C := RX2) (T := TX2) (N := 5) (As := [.int (nI i)]) (rest := [.int (σ 0 i + σ 2 i)]) (w0 := []) (w2 := (oC ob h h2) ++ ((mC cI cZ h a σ) ++ (mC cI cZ h2 a2 ρ_66))) (wB := (sC cI cL sm q σ n k) ++ ((oC ob h h2) ++ ((mC cI cZ h a σ) ++ (mC cI cZ h2 a2 ρ_66)))) (c_X2_level l D cI cZ cL sm q σ hst i (by omega)) ⟨hx, hb, hml, hown, hts⟩ q471 b_X2_level (n := 1) (by decide +kernel) ⟨(Nat.le_of_ble_eq_true rfl), (Nat.le_of_ble_eq_true rfl)⟩ hK hP hD hS hA rfl rfl (ci := 2) rfl rfl rfl hl.1 rfl (Nat.le_of_ble_eq_true rfl) dX2_isSame_186 ⟨by show (2 * i) + 0 ≤ 40; omega, by show (20 * i) + 0 ≤ 400; omega⟩ (fun H locs hP hD hS => ?_)
                    refine W.wide (k := (2 * i)) (n := (20 * i)) (by show (2 * i) + 0 ≤ (2 * i); omega) (by show (20 * i) + 0 ≤ (20 * i); omega) ?_
                    refine lv_icmp_ne (tgt := 253) hx hb dX2_isSame_189 (by decide) (fun z => absurd (rfl) z) (fun c_189 => ?_)
                    refine lv_aload_n hx hb dX2_isSame_192 rfl (lv_at hl 8 rfl) ?_
                    refine lv_iload hx hb dX2_isSame_193 (lv_at hl 10 rfl) ?_
                    refine MX.callV0 (C := RX1) (T := TX1) (N := 2) (As := [.int (nI i)]) (rest := []) (w0 := sC cI cL sm q σ n k) (w2 := []) (wB := fun ρ => (sC cI cL sm q σ n k) ++ ((oC ob h h2) ++ ((mC cI cZ h a σ) ++ (mC cI cZ h2 a2 ρ)))) (c_X1_wetFor l D cI cZ cL ob h a h2 a2 σ ρ_66 hst i (by omega)) ⟨hx, hb, hml, hown, hts⟩ q496 b_X1_wetFor (n := 1) (by decide +kernel) ⟨(Nat.le_of_ble_eq_true rfl), (Nat.le_of_ble_eq_true rfl)⟩ hK hP hD hS hA hE (by rw [List.append_nil]) (fun _ => by rw [List.append_nil]) (ci := 1) rfl rfl rfl hl.1 rfl (Nat.le_of_ble_eq_true rfl) dX2_isSame_195 ⟨by show (2 * i) + 0 ≤ 40; omega, by show (20 * i) + 0 ≤ 400; omega⟩ (fun ρ_67 H locs hP hD hS => ?_)
                    have hP : va_P D vwCl ((sC cI cL sm q σ n k) ++ ((oC ob h h2) ++ ((mC cI cZ h a σ) ++ (mC cI cZ h2 a2 ρ_67)))) H := hP
                    have hD : va_D A ((sC cI cL sm q σ n k) ++ ((oC ob h h2) ++ ((mC cI cZ h a σ) ++ (mC cI cZ h2 a2 ρ_67)))) := hD
                    refine W.wide (k := (2 * i)) (n := (20 * i)) (by show (2 * i) + 0 ≤ (2 * i); omega) (by show (20 * i) + 0 ≤ (20 * i); omega) ?_
                    refine lv_aload hx hb dX2_isSame_198 (lv_at hl 6 rfl) ?_
                    refine lv_iconst (v := 3) hx hb dX2_isSame_200 (by decide) ?_
                    refine s_ldF hx hb hK hP (σ := σ) (n := n) (k := k) (q := q) (sm := sm) (w0 := []) (w2 := (oC ob h h2) ++ ((mC cI cZ h a σ) ++ (mC cI cZ h2 a2 ρ_67))) rfl i (by omega) 3 rfl (by decide) (v := σ 3 i) rfl dX2_isSame_201 ?_
                    refine lv_icmp_ne (tgt := 253) hx hb dX2_isSame_202 (by decide) (fun z => absurd (rfl) z) (fun c_202 => ?_)
                    refine lv_aload_n hx hb dX2_isSame_205 rfl (lv_at hl 8 rfl) ?_
                    refine lv_iload hx hb dX2_isSame_206 (lv_at hl 10 rfl) ?_
                    refine MX.callV0 (C := RX1) (T := TX1) (N := 2) (As := [.int (nI i)]) (rest := []) (w0 := sC cI cL sm q σ n k) (w2 := []) (wB := fun ρ => (sC cI cL sm q σ n k) ++ ((oC ob h h2) ++ ((mC cI cZ h a σ) ++ (mC cI cZ h2 a2 ρ)))) (c_X1_isRuined l D cI cZ cL ob h a h2 a2 σ ρ_67 hst hB i (by omega)) ⟨hx, hb, hml, hown, hts⟩ q497 b_X1_isRuined (n := 1) (by decide +kernel) ⟨(Nat.le_of_ble_eq_true rfl), (Nat.le_of_ble_eq_true rfl)⟩ hK hP hD hS hA hE (by rw [List.append_nil]) (fun _ => by rw [List.append_nil]) (ci := 1) rfl rfl rfl hl.1 rfl (Nat.le_of_ble_eq_true rfl) dX2_isSame_208 ⟨by show (2 * i) + 0 ≤ 40; omega, by show (20 * i) + 0 ≤ 400; omega⟩ (fun ρ_68 H locs hP hD hS => ?_)
                    have hP : va_P D vwCl ((sC cI cL sm q σ n k) ++ ((oC ob h h2) ++ ((mC cI cZ h a σ) ++ (mC cI cZ h2 a2 ρ_68)))) H := hP
                    have hD : va_D A ((sC cI cL sm q σ n k) ++ ((oC ob h h2) ++ ((mC cI cZ h a σ) ++ (mC cI cZ h2 a2 ρ_68)))) := hD
                    refine W.wide (k := (2 * i)) (n := (20 * i)) (by show (2 * i) + 0 ≤ (2 * i); omega) (by show (20 * i) + 0 ≤ (20 * i); omega) ?_
                    refine lv_aload hx hb dX2_isSame_211 (lv_at hl 6 rfl) ?_
                    refine lv_iconst (v := 4) hx hb dX2_isSame_213 (by decide) ?_
                    refine s_ldF hx hb hK hP (σ := σ) (n := n) (k := k) (q := q) (sm := sm) (w0 := []) (w2 := (oC ob h h2) ++ ((mC cI cZ h a σ) ++ (mC cI cZ h2 a2 ρ_68))) rfl i (by omega) 4 rfl (by decide) (v := σ 4 i) rfl dX2_isSame_214 ?_
                    refine lv_iconst (v := 1) hx hb dX2_isSame_215 (by decide) ?_
                    refine lv_icmp_ne (tgt := 223) hx hb dX2_isSame_216 (by decide) (fun c_216 => ?_) (fun c_216 => ?_)
                    · refine lv_iconst (v := 0) hx hb dX2_isSame_223 (by decide) ?_
                      refine lv_icmp_ne (tgt := 253) hx hb dX2_isSame_224 (by decide) (fun z => absurd (b01_0 (hB.2.2.2.2.1 i (by omega)) c_216) z) (fun c_224 => ?_)
                      refine lv_aload_n hx hb dX2_isSame_227 rfl (lv_at hl 8 rfl) ?_
                      refine lv_iload hx hb dX2_isSame_228 (lv_at hl 10 rfl) ?_
                      refine MX.callV0 (C := RX1) (T := TX1) (N := 2) (As := [.int (nI i)]) (rest := []) (w0 := sC cI cL sm q σ n k) (w2 := []) (wB := fun ρ => (sC cI cL sm q σ n k) ++ ((oC ob h h2) ++ ((mC cI cZ h a σ) ++ (mC cI cZ h2 a2 ρ)))) (c_X1_drainsAt l D cI cZ cL ob h a h2 a2 σ ρ_68 hst i (by omega)) ⟨hx, hb, hml, hown, hts⟩ q498 b_X1_drainsAt (n := 1) (by decide +kernel) ⟨(Nat.le_of_ble_eq_true rfl), (Nat.le_of_ble_eq_true rfl)⟩ hK hP hD hS hA hE (by rw [List.append_nil]) (fun _ => by rw [List.append_nil]) (ci := 1) rfl rfl rfl hl.1 rfl (Nat.le_of_ble_eq_true rfl) dX2_isSame_230 ⟨by show (2 * i) + 0 ≤ 40; omega, by show (20 * i) + 0 ≤ 400; omega⟩ (fun ρ_69 H locs hP hD hS => ?_)
                      have hP : va_P D vwCl ((sC cI cL sm q σ n k) ++ ((oC ob h h2) ++ ((mC cI cZ h a σ) ++ (mC cI cZ h2 a2 ρ_69)))) H := hP
                      have hD : va_D A ((sC cI cL sm q σ n k) ++ ((oC ob h h2) ++ ((mC cI cZ h a σ) ++ (mC cI cZ h2 a2 ρ_69)))) := hD
                      refine W.wide (k := (2 * i)) (n := (20 * i)) (by show (2 * i) + 0 ≤ (2 * i); omega) (by show (20 * i) + 0 ≤ (20 * i); omega) ?_
                      refine lv_iload hx hb dX2_isSame_233 (lv_at hl 11 rfl) ?_
                      refine lv_icmp_ne (tgt := 253) hx hb dX2_isSame_235 (by decide) (fun z => absurd (by unfold openS; rw [hst.eD, show k = d by omega]) z) (fun c_235 => ?_)
                      refine lv_aload_n hx hb dX2_isSame_238 rfl (lv_at hl 8 rfl) ?_
                      refine lv_iload hx hb dX2_isSame_239 (lv_at hl 10 rfl) ?_
                      refine MX.callV0 (C := RX1) (T := TX1) (N := 2) (As := [.int (nI i)]) (rest := []) (w0 := sC cI cL sm q σ n k) (w2 := []) (wB := fun ρ => (sC cI cL sm q σ n k) ++ ((oC ob h h2) ++ ((mC cI cZ h a σ) ++ (mC cI cZ h2 a2 ρ)))) (c_X1_reaches l D cI cZ cL ob h a h2 a2 σ ρ_69 hst i (by omega)) ⟨hx, hb, hml, hown, hts⟩ q499 b_X1_reaches (n := 1) (by decide +kernel) ⟨(Nat.le_of_ble_eq_true rfl), (Nat.le_of_ble_eq_true rfl)⟩ hK hP hD hS hA hE (by rw [List.append_nil]) (fun _ => by rw [List.append_nil]) (ci := 1) rfl rfl rfl hl.1 rfl (Nat.le_of_ble_eq_true rfl) dX2_isSame_241 ⟨by show (2 * i) + 0 ≤ 40; omega, by show (20 * i) + 0 ≤ 400; omega⟩ (fun ρ_70 H locs hP hD hS => ?_)
                      have hP : va_P D vwCl ((sC cI cL sm q σ n k) ++ ((oC ob h h2) ++ ((mC cI cZ h a σ) ++ (mC cI cZ h2 a2 ρ_70)))) H := hP
                      have hD : va_D A ((sC cI cL sm q σ n k) ++ ((oC ob h h2) ++ ((mC cI cZ h a σ) ++ (mC cI cZ h2 a2 ρ_70)))) := hD
                      refine W.wide (k := (2 * i)) (n := (20 * i)) (by show (2 * i) + 0 ≤ (2 * i); omega) (by show (20 * i) + 0 ≤ (20 * i); omega) ?_
                      refine lv_aload_n hx hb dX2_isSame_244 rfl (lv_at hl 7 rfl) ?_
                      refine lv_iload hx hb dX2_isSame_245 (lv_at hl 10 rfl) ?_
                      refine MY.callV0 (C := RX2) (T := TX2) (N := 5) (As := [.int (nI i)]) (rest := [.int (reachS σ i)]) (w0 := []) (w2 := (oC ob h h2) ++ ((mC cI cZ h a σ) ++ (mC cI cZ h2 a2 ρ_70))) (wB := fun y => (sC cI cL sm q σ n k) ++ ((oC ob h h2) ++ ((mC cI cZ h a σ) ++ (mC cI cZ h2 a2 ρ_70)))) (c_X2_reaches l D cI cZ cL sm q σ hst i (by omega)) ⟨hx, hb, hml, hown, hts⟩ q500 b_X2_reaches (n := 1) (by decide +kernel) ⟨(Nat.le_of_ble_eq_true rfl), (Nat.le_of_ble_eq_true rfl)⟩ hK hP hD hS hA (EY.non hE) (by simp only [List.append_assoc, List.append_nil, List.nil_append]) (fun _ => by simp only [List.append_assoc, List.append_nil, List.nil_append]) (ci := 2) rfl rfl rfl hl.1 rfl (Nat.le_of_ble_eq_true rfl) dX2_isSame_247 ⟨by show (2 * i) + 1 ≤ 40; omega, by show (20 * i) + 10 ≤ 400; omega⟩ (fun y H locs hP hD hS => ?_)
                      have hP : va_P D vwCl ((sC cI cL sm q σ n k) ++ ((oC ob h h2) ++ ((mC cI cZ h a σ) ++ (mC cI cZ h2 a2 ρ_70)))) H := hP
                      have hD : va_D A ((sC cI cL sm q σ n k) ++ ((oC ob h h2) ++ ((mC cI cZ h a σ) ++ (mC cI cZ h2 a2 ρ_70)))) := hD
                      refine W.wide (k := ((2 * i) + 1)) (n := ((20 * i) + 10)) (by show (2 * i) + 1 ≤ ((2 * i) + 1); omega) (by show (20 * i) + 10 ≤ ((20 * i) + 10); omega) ?_
                      refine lv_icmp_eq (tgt := 255) hx hb dX2_isSame_250 (by decide) (fun c_250 => ?_) (fun z => absurd (rfl) z)
                      refine lv_iinc (v := (nI (i + 1))) (lv' := [(7, .int (nI (i + 1))), (5, .int (amax (fun q => σ 0 q + σ 2 q) (i + 1))), (4, .int (sumI (fun f => if σ 4 f = 0 then (0 : Int32) else 1) (i + 1))), (3, .int (sumI (fun f => isW σ f) (i + 1))), (2, .int (sumI (fun f => σ 2 f) (i + 1))), (11, .int (nI k)), (10, .ref q.1.2), (8, .ref (q.2.1 i)), (0, .ref sm), (1, .ref ob), (6, .int (-1)), (9, .int (sumI (fun d => opB σ i d) d)), (12, .int (nI d))]) hx hb dX2_isSame_255 hl (k := 10) rfl (nI_add i 1) (by decide) rfl (fun ls hl => ?_)
                      refine lv_goto (tgt := 16) hx hb dX2_isSame_258 (by decide) ?_
                      refine W.wide (k := 2 * (i + 1)) (n := 20 * (i + 1)) (by first | omega | exact Nat.le_of_ble_eq_true rfl) (by first | omega | exact Nat.le_of_ble_eq_true rfl) ?_
                      exact ih_16 (i + 1) ρ_70 (by omega) (by omega) _ _ _ hP hD hS (lv_sub hl [8, 9, 4, 3, 2, 1, 10, 0] rfl)
                    · refine lv_iconst (v := 1) hx hb dX2_isSame_219 (by decide) ?_
                      refine lv_goto (tgt := 224) hx hb dX2_isSame_220 (by decide) ?_
                      refine lv_icmp_ne (tgt := 253) hx hb dX2_isSame_224 (by decide) (fun z => absurd (c_216) z) (fun c_224 => ?_)
                      refine lv_aload_n hx hb dX2_isSame_227 rfl (lv_at hl 8 rfl) ?_
                      refine lv_iload hx hb dX2_isSame_228 (lv_at hl 10 rfl) ?_
                      refine MX.callV0 (C := RX1) (T := TX1) (N := 2) (As := [.int (nI i)]) (rest := []) (w0 := sC cI cL sm q σ n k) (w2 := []) (wB := fun ρ => (sC cI cL sm q σ n k) ++ ((oC ob h h2) ++ ((mC cI cZ h a σ) ++ (mC cI cZ h2 a2 ρ)))) (c_X1_drainsAt l D cI cZ cL ob h a h2 a2 σ ρ_68 hst i (by omega)) ⟨hx, hb, hml, hown, hts⟩ q498 b_X1_drainsAt (n := 1) (by decide +kernel) ⟨(Nat.le_of_ble_eq_true rfl), (Nat.le_of_ble_eq_true rfl)⟩ hK hP hD hS hA hE (by rw [List.append_nil]) (fun _ => by rw [List.append_nil]) (ci := 1) rfl rfl rfl hl.1 rfl (Nat.le_of_ble_eq_true rfl) dX2_isSame_230 ⟨by show (2 * i) + 0 ≤ 40; omega, by show (20 * i) + 0 ≤ 400; omega⟩ (fun ρ_71 H locs hP hD hS => ?_)
                      have hP : va_P D vwCl ((sC cI cL sm q σ n k) ++ ((oC ob h h2) ++ ((mC cI cZ h a σ) ++ (mC cI cZ h2 a2 ρ_71)))) H := hP
                      have hD : va_D A ((sC cI cL sm q σ n k) ++ ((oC ob h h2) ++ ((mC cI cZ h a σ) ++ (mC cI cZ h2 a2 ρ_71)))) := hD
                      refine W.wide (k := (2 * i)) (n := (20 * i)) (by show (2 * i) + 0 ≤ (2 * i); omega) (by show (20 * i) + 0 ≤ (20 * i); omega) ?_
                      refine lv_iload hx hb dX2_isSame_233 (lv_at hl 11 rfl) ?_
                      refine lv_icmp_ne (tgt := 253) hx hb dX2_isSame_235 (by decide) (fun z => absurd (by unfold openS; rw [hst.eD, show k = d by omega]) z) (fun c_235 => ?_)
                      refine lv_aload_n hx hb dX2_isSame_238 rfl (lv_at hl 8 rfl) ?_
                      refine lv_iload hx hb dX2_isSame_239 (lv_at hl 10 rfl) ?_
                      refine MX.callV0 (C := RX1) (T := TX1) (N := 2) (As := [.int (nI i)]) (rest := []) (w0 := sC cI cL sm q σ n k) (w2 := []) (wB := fun ρ => (sC cI cL sm q σ n k) ++ ((oC ob h h2) ++ ((mC cI cZ h a σ) ++ (mC cI cZ h2 a2 ρ)))) (c_X1_reaches l D cI cZ cL ob h a h2 a2 σ ρ_71 hst i (by omega)) ⟨hx, hb, hml, hown, hts⟩ q499 b_X1_reaches (n := 1) (by decide +kernel) ⟨(Nat.le_of_ble_eq_true rfl), (Nat.le_of_ble_eq_true rfl)⟩ hK hP hD hS hA hE (by rw [List.append_nil]) (fun _ => by rw [List.append_nil]) (ci := 1) rfl rfl rfl hl.1 rfl (Nat.le_of_ble_eq_true rfl) dX2_isSame_241 ⟨by show (2 * i) + 0 ≤ 40; omega, by show (20 * i) + 0 ≤ 400; omega⟩ (fun ρ_72 H locs hP hD hS => ?_)
                      have hP : va_P D vwCl ((sC cI cL sm q σ n k) ++ ((oC ob h h2) ++ ((mC cI cZ h a σ) ++ (mC cI cZ h2 a2 ρ_72)))) H := hP
                      have hD : va_D A ((sC cI cL sm q σ n k) ++ ((oC ob h h2) ++ ((mC cI cZ h a σ) ++ (mC cI cZ h2 a2 ρ_72)))) := hD
                      refine W.wide (k := (2 * i)) (n := (20 * i)) (by show (2 * i) + 0 ≤ (2 * i); omega) (by show (20 * i) + 0 ≤ (20 * i); omega) ?_
                      refine lv_aload_n hx hb dX2_isSame_244 rfl (lv_at hl 7 rfl) ?_
                      refine lv_iload hx hb dX2_isSame_245 (lv_at hl 10 rfl) ?_
                      refine MY.callV0 (C := RX2) (T := TX2) (N := 5) (As := [.int (nI i)]) (rest := [.int (reachS σ i)]) (w0 := []) (w2 := (oC ob h h2) ++ ((mC cI cZ h a σ) ++ (mC cI cZ h2 a2 ρ_72))) (wB := fun y => (sC cI cL sm q σ n k) ++ ((oC ob h h2) ++ ((mC cI cZ h a σ) ++ (mC cI cZ h2 a2 ρ_72)))) (c_X2_reaches l D cI cZ cL sm q σ hst i (by omega)) ⟨hx, hb, hml, hown, hts⟩ q500 b_X2_reaches (n := 1) (by decide +kernel) ⟨(Nat.le_of_ble_eq_true rfl), (Nat.le_of_ble_eq_true rfl)⟩ hK hP hD hS hA (EY.non hE) (by simp only [List.append_assoc, List.append_nil, List.nil_append]) (fun _ => by simp only [List.append_assoc, List.append_nil, List.nil_append]) (ci := 2) rfl rfl rfl hl.1 rfl (Nat.le_of_ble_eq_true rfl) dX2_isSame_247 ⟨by show (2 * i) + 1 ≤ 40; omega, by show (20 * i) + 10 ≤ 400; omega⟩ (fun y H locs hP hD hS => ?_)
                      have hP : va_P D vwCl ((sC cI cL sm q σ n k) ++ ((oC ob h h2) ++ ((mC cI cZ h a σ) ++ (mC cI cZ h2 a2 ρ_72)))) H := hP
                      have hD : va_D A ((sC cI cL sm q σ n k) ++ ((oC ob h h2) ++ ((mC cI cZ h a σ) ++ (mC cI cZ h2 a2 ρ_72)))) := hD
                      refine W.wide (k := ((2 * i) + 1)) (n := ((20 * i) + 10)) (by show (2 * i) + 1 ≤ ((2 * i) + 1); omega) (by show (20 * i) + 10 ≤ ((20 * i) + 10); omega) ?_
                      refine lv_icmp_eq (tgt := 255) hx hb dX2_isSame_250 (by decide) (fun c_250 => ?_) (fun z => absurd (rfl) z)
                      refine lv_iinc (v := (nI (i + 1))) (lv' := [(7, .int (nI (i + 1))), (5, .int (amax (fun q => σ 0 q + σ 2 q) (i + 1))), (4, .int (sumI (fun f => if σ 4 f = 0 then (0 : Int32) else 1) (i + 1))), (3, .int (sumI (fun f => isW σ f) (i + 1))), (2, .int (sumI (fun f => σ 2 f) (i + 1))), (11, .int (nI k)), (10, .ref q.1.2), (8, .ref (q.2.1 i)), (0, .ref sm), (1, .ref ob), (6, .int (-1)), (9, .int (sumI (fun d => opB σ i d) d)), (12, .int (nI d))]) hx hb dX2_isSame_255 hl (k := 10) rfl (nI_add i 1) (by decide) rfl (fun ls hl => ?_)
                      refine lv_goto (tgt := 16) hx hb dX2_isSame_258 (by decide) ?_
                      refine W.wide (k := 2 * (i + 1)) (n := 20 * (i + 1)) (by first | omega | exact Nat.le_of_ble_eq_true rfl) (by first | omega | exact Nat.le_of_ble_eq_true rfl) ?_
                      exact ih_16 (i + 1) ρ_72 (by omega) (by omega) _ _ _ hP hD hS (lv_sub hl [8, 9, 4, 3, 2, 1, 10, 0] rfl)
              · refine lv_iconst (v := 1) hx hb dX2_isSame_124 (by decide) ?_
                refine lv_goto (tgt := 129) hx hb dX2_isSame_125 (by decide) ?_
                refine lv_iadd hx hb dX2_isSame_129 ?_
                refine lv_topi (fun v_73 ev_73 => ?_)
                refine lv_istore_n (lv' := [(3, .int v_73), (2, .int (sumI (fun f => σ 2 f) (i + 1))), (11, .int (nI k)), (10, .ref q.1.2), (8, .ref (q.2.1 i)), (0, .ref sm), (1, .ref ob), (4, .int (sumI (fun f => if σ 4 f = 0 then (0 : Int32) else 1) i)), (5, .int (amax (fun q => σ 0 q + σ 2 q) i)), (6, .int (-1)), (7, .int (nI i)), (9, .int (sumI (fun d => opB σ i d) d)), (12, .int (nI d))]) hx hb dX2_isSame_130 rfl hl (by decide) rfl (fun ls hl => ?_)
                have e7 : v_73 = sumI (fun f => isW σ f) (i + 1) := by
                  rw [ev_73]
                  exact sum_1 (g := (fun f => isW σ f)) (isW_gt c_121)
                rw [e7] at hl
                refine lv_iload hx hb dX2_isSame_131 (lv_at hl 7 rfl) ?_
                refine lv_aload hx hb dX2_isSame_133 (lv_at hl 4 rfl) ?_
                refine lv_iconst (v := 4) hx hb dX2_isSame_135 (by decide) ?_
                refine s_ldF hx hb hK hP (σ := σ) (n := n) (k := k) (q := q) (sm := sm) (w0 := []) (w2 := (oC ob h h2) ++ ((mC cI cZ h a σ) ++ (mC cI cZ h2 a2 ρ))) rfl i (by omega) 4 rfl (by decide) (v := σ 4 i) rfl dX2_isSame_136 ?_
                refine lv_iadd hx hb dX2_isSame_137 ?_
                refine lv_topi (fun v_74 ev_74 => ?_)
                refine lv_istore (lv' := [(4, .int v_74), (3, .int (sumI (fun f => isW σ f) (i + 1))), (2, .int (sumI (fun f => σ 2 f) (i + 1))), (11, .int (nI k)), (10, .ref q.1.2), (8, .ref (q.2.1 i)), (0, .ref sm), (1, .ref ob), (5, .int (amax (fun q => σ 0 q + σ 2 q) i)), (6, .int (-1)), (7, .int (nI i)), (9, .int (sumI (fun d => opB σ i d) d)), (12, .int (nI d))]) hx hb dX2_isSame_138 hl (by decide) rfl (fun ls hl => ?_)
                have e7 : v_74 = sumI (fun f => if σ 4 f = 0 then (0 : Int32) else 1) (i + 1) := by
                  rw [ev_74]
                  exact sum_1 (g := (fun f => if σ 4 f = 0 then (0 : Int32) else 1)) (b01_i (hB.2.2.2.2.1 i (by omega)))
                rw [e7] at hl
                rcases amax_or (fun q => σ 0 q + σ 2 q) i with ⟨hm, him⟩ | ⟨jm, hjm, hm⟩
                · rw [hm] at hl
                  refine lv_iload hx hb dX2_isSame_140 (lv_at hl 8 rfl) ?_
                  refine lv_if_lt (tgt := 160) hx hb dX2_isSame_142 (by decide) (fun c_142 => ?_) (fun z => absurd (by decide) z)
                  refine lv_iload hx hb dX2_isSame_160 (lv_at hl 10 rfl) ?_
                  refine lv_istore (lv' := [(5, .int (nI i)), (4, .int (sumI (fun f => if σ 4 f = 0 then (0 : Int32) else 1) (i + 1))), (3, .int (sumI (fun f => isW σ f) (i + 1))), (2, .int (sumI (fun f => σ 2 f) (i + 1))), (11, .int (nI k)), (10, .ref q.1.2), (8, .ref (q.2.1 i)), (0, .ref sm), (1, .ref ob), (6, .int (-1)), (7, .int (nI i)), (9, .int (sumI (fun d => opB σ i d) d)), (12, .int (nI d))]) hx hb dX2_isSame_162 hl (by decide) rfl (fun ls hl => ?_)
                  have e6 : (nI i) = amax (fun q => σ 0 q + σ 2 q) (i + 1) := amax_c1 hm
                  have hl : lv_has ls 14 [(5, .int (amax (fun q => σ 0 q + σ 2 q) (i + 1))), (4, .int (sumI (fun f => if σ 4 f = 0 then (0 : Int32) else 1) (i + 1))), (3, .int (sumI (fun f => isW σ f) (i + 1))), (2, .int (sumI (fun f => σ 2 f) (i + 1))), (11, .int (nI k)), (10, .ref q.1.2), (8, .ref (q.2.1 i)), (0, .ref sm), (1, .ref ob), (6, .int (-1)), (7, .int (nI i)), (9, .int (sumI (fun d => opB σ i d) d)), (12, .int (nI d))] := by rw [← e6]; exact hl
                  refine lv_aload_n hx hb dX2_isSame_164 rfl (lv_at hl 8 rfl) ?_
                  refine lv_iload hx hb dX2_isSame_165 (lv_at hl 10 rfl) ?_
                  refine MX.callV0 (C := RX1) (T := TX1) (N := 2) (As := [.int (nI i)]) (rest := []) (w0 := sC cI cL sm q σ n k) (w2 := []) (wB := fun ρ => (sC cI cL sm q σ n k) ++ ((oC ob h h2) ++ ((mC cI cZ h a σ) ++ (mC cI cZ h2 a2 ρ)))) (c_X1_waterOn l D cI cZ cL ob h a h2 a2 σ ρ hst i (by omega)) ⟨hx, hb, hml, hown, hts⟩ q494 b_X1_waterOn (n := 1) (by decide +kernel) ⟨(Nat.le_of_ble_eq_true rfl), (Nat.le_of_ble_eq_true rfl)⟩ hK hP hD hS hA hE (by rw [List.append_nil]) (fun _ => by rw [List.append_nil]) (ci := 1) rfl rfl rfl hl.1 rfl (Nat.le_of_ble_eq_true rfl) dX2_isSame_167 ⟨by show (2 * i) + 0 ≤ 40; omega, by show (20 * i) + 0 ≤ 400; omega⟩ (fun ρ_75 H locs hP hD hS => ?_)
                  have hP : va_P D vwCl ((sC cI cL sm q σ n k) ++ ((oC ob h h2) ++ ((mC cI cZ h a σ) ++ (mC cI cZ h2 a2 ρ_75)))) H := hP
                  have hD : va_D A ((sC cI cL sm q σ n k) ++ ((oC ob h h2) ++ ((mC cI cZ h a σ) ++ (mC cI cZ h2 a2 ρ_75)))) := hD
                  refine W.wide (k := (2 * i)) (n := (20 * i)) (by show (2 * i) + 0 ≤ (2 * i); omega) (by show (20 * i) + 0 ≤ (20 * i); omega) ?_
                  refine lv_aload hx hb dX2_isSame_170 (lv_at hl 6 rfl) ?_
                  refine lv_iconst (v := 2) hx hb dX2_isSame_172 (by decide) ?_
                  refine s_ldF hx hb hK hP (σ := σ) (n := n) (k := k) (q := q) (sm := sm) (w0 := []) (w2 := (oC ob h h2) ++ ((mC cI cZ h a σ) ++ (mC cI cZ h2 a2 ρ_75))) rfl i (by omega) 2 rfl (by decide) (v := σ 2 i) rfl dX2_isSame_173 ?_
                  refine lv_icmp_ne (tgt := 253) hx hb dX2_isSame_174 (by decide) (fun z => absurd (rfl) z) (fun c_174 => ?_)
                  refine lv_aload_n hx hb dX2_isSame_177 rfl (lv_at hl 8 rfl) ?_
                  refine lv_iload hx hb dX2_isSame_178 (lv_at hl 10 rfl) ?_
                  refine MX.callV0 (C := RX1) (T := TX1) (N := 2) (As := [.int (nI i)]) (rest := []) (w0 := sC cI cL sm q σ n k) (w2 := []) (wB := fun ρ => (sC cI cL sm q σ n k) ++ ((oC ob h h2) ++ ((mC cI cZ h a σ) ++ (mC cI cZ h2 a2 ρ)))) (c_X1_levelOf l D cI cZ cL ob h a h2 a2 σ ρ_75 hst i (by omega)) ⟨hx, hb, hml, hown, hts⟩ q495 b_X1_levelOf (n := 1) (by decide +kernel) ⟨(Nat.le_of_ble_eq_true rfl), (Nat.le_of_ble_eq_true rfl)⟩ hK hP hD hS hA hE (by rw [List.append_nil]) (fun _ => by rw [List.append_nil]) (ci := 1) rfl rfl rfl hl.1 rfl (Nat.le_of_ble_eq_true rfl) dX2_isSame_180 ⟨by show (2 * i) + 0 ≤ 40; omega, by show (20 * i) + 0 ≤ 400; omega⟩ (fun ρ_76 H locs hP hD hS => ?_)
                  have hP : va_P D vwCl ((sC cI cL sm q σ n k) ++ ((oC ob h h2) ++ ((mC cI cZ h a σ) ++ (mC cI cZ h2 a2 ρ_76)))) H := hP
                  have hD : va_D A ((sC cI cL sm q σ n k) ++ ((oC ob h h2) ++ ((mC cI cZ h a σ) ++ (mC cI cZ h2 a2 ρ_76)))) := hD
                  refine W.wide (k := (2 * i)) (n := (20 * i)) (by show (2 * i) + 0 ≤ (2 * i); omega) (by show (20 * i) + 0 ≤ (20 * i); omega) ?_
                  refine lv_aload_n hx hb dX2_isSame_183 rfl (lv_at hl 7 rfl) ?_
                  refine lv_iload hx hb dX2_isSame_184 (lv_at hl 10 rfl) ?_
                  refine MC.callV0 (C := RX2) (T := TX2) (N := 5) (As := [.int (nI i)]) (rest := [.int (σ 0 i + σ 2 i)]) (w0 := []) (w2 := (oC ob h h2) ++ ((mC cI cZ h a σ) ++ (mC cI cZ h2 a2 ρ_76))) (wB := (sC cI cL sm q σ n k) ++ ((oC ob h h2) ++ ((mC cI cZ h a σ) ++ (mC cI cZ h2 a2 ρ_76)))) (c_X2_level l D cI cZ cL sm q σ hst i (by omega)) ⟨hx, hb, hml, hown, hts⟩ q471 b_X2_level (n := 1) (by decide +kernel) ⟨(Nat.le_of_ble_eq_true rfl), (Nat.le_of_ble_eq_true rfl)⟩ hK hP hD hS hA rfl rfl (ci := 2) rfl rfl rfl hl.1 rfl (Nat.le_of_ble_eq_true rfl) dX2_isSame_186 ⟨by show (2 * i) + 0 ≤ 40; omega, by show (20 * i) + 0 ≤ 400; omega⟩ (fun H locs hP hD hS => ?_)
                  refine W.wide (k := (2 * i)) (n := (20 * i)) (by show (2 * i) + 0 ≤ (2 * i); omega) (by show (20 * i) + 0 ≤ (20 * i); omega) ?_
                  refine lv_icmp_ne (tgt := 253) hx hb dX2_isSame_189 (by decide) (fun z => absurd (rfl) z) (fun c_189 => ?_)
                  refine lv_aload_n hx hb dX2_isSame_192 rfl (lv_at hl 8 rfl) ?_
                  refine lv_iload hx hb dX2_isSame_193 (lv_at hl 10 rfl) ?_
                  refine MX.callV0 (C := RX1) (T := TX1) (N := 2) (As := [.int (nI i)]) (rest := []) (w0 := sC cI cL sm q σ n k) (w2 := []) (wB := fun ρ => (sC cI cL sm q σ n k) ++ ((oC ob h h2) ++ ((mC cI cZ h a σ) ++ (mC cI cZ h2 a2 ρ)))) (c_X1_wetFor l D cI cZ cL ob h a h2 a2 σ ρ_76 hst i (by omega)) ⟨hx, hb, hml, hown, hts⟩ q496 b_X1_wetFor (n := 1) (by decide +kernel) ⟨(Nat.le_of_ble_eq_true rfl), (Nat.le_of_ble_eq_true rfl)⟩ hK hP hD hS hA hE (by rw [List.append_nil]) (fun _ => by rw [List.append_nil]) (ci := 1) rfl rfl rfl hl.1 rfl (Nat.le_of_ble_eq_true rfl) dX2_isSame_195 ⟨by show (2 * i) + 0 ≤ 40; omega, by show (20 * i) + 0 ≤ 400; omega⟩ (fun ρ_77 H locs hP hD hS => ?_)
                  have hP : va_P D vwCl ((sC cI cL sm q σ n k) ++ ((oC ob h h2) ++ ((mC cI cZ h a σ) ++ (mC cI cZ h2 a2 ρ_77)))) H := hP
                  have hD : va_D A ((sC cI cL sm q σ n k) ++ ((oC ob h h2) ++ ((mC cI cZ h a σ) ++ (mC cI cZ h2 a2 ρ_77)))) := hD
                  refine W.wide (k := (2 * i)) (n := (20 * i)) (by show (2 * i) + 0 ≤ (2 * i); omega) (by show (20 * i) + 0 ≤ (20 * i); omega) ?_
                  refine lv_aload hx hb dX2_isSame_198 (lv_at hl 6 rfl) ?_
                  refine lv_iconst (v := 3) hx hb dX2_isSame_200 (by decide) ?_
                  refine s_ldF hx hb hK hP (σ := σ) (n := n) (k := k) (q := q) (sm := sm) (w0 := []) (w2 := (oC ob h h2) ++ ((mC cI cZ h a σ) ++ (mC cI cZ h2 a2 ρ_77))) rfl i (by omega) 3 rfl (by decide) (v := σ 3 i) rfl dX2_isSame_201 ?_
                  refine lv_icmp_ne (tgt := 253) hx hb dX2_isSame_202 (by decide) (fun z => absurd (rfl) z) (fun c_202 => ?_)
                  refine lv_aload_n hx hb dX2_isSame_205 rfl (lv_at hl 8 rfl) ?_
                  refine lv_iload hx hb dX2_isSame_206 (lv_at hl 10 rfl) ?_
                  refine MX.callV0 (C := RX1) (T := TX1) (N := 2) (As := [.int (nI i)]) (rest := []) (w0 := sC cI cL sm q σ n k) (w2 := []) (wB := fun ρ => (sC cI cL sm q σ n k) ++ ((oC ob h h2) ++ ((mC cI cZ h a σ) ++ (mC cI cZ h2 a2 ρ)))) (c_X1_isRuined l D cI cZ cL ob h a h2 a2 σ ρ_77 hst hB i (by omega)) ⟨hx, hb, hml, hown, hts⟩ q497 b_X1_isRuined (n := 1) (by decide +kernel) ⟨(Nat.le_of_ble_eq_true rfl), (Nat.le_of_ble_eq_true rfl)⟩ hK hP hD hS hA hE (by rw [List.append_nil]) (fun _ => by rw [List.append_nil]) (ci := 1) rfl rfl rfl hl.1 rfl (Nat.le_of_ble_eq_true rfl) dX2_isSame_208 ⟨by show (2 * i) + 0 ≤ 40; omega, by show (20 * i) + 0 ≤ 400; omega⟩ (fun ρ_78 H locs hP hD hS => ?_)
                  have hP : va_P D vwCl ((sC cI cL sm q σ n k) ++ ((oC ob h h2) ++ ((mC cI cZ h a σ) ++ (mC cI cZ h2 a2 ρ_78)))) H := hP
                  have hD : va_D A ((sC cI cL sm q σ n k) ++ ((oC ob h h2) ++ ((mC cI cZ h a σ) ++ (mC cI cZ h2 a2 ρ_78)))) := hD
                  refine W.wide (k := (2 * i)) (n := (20 * i)) (by show (2 * i) + 0 ≤ (2 * i); omega) (by show (20 * i) + 0 ≤ (20 * i); omega) ?_
                  refine lv_aload hx hb dX2_isSame_211 (lv_at hl 6 rfl) ?_
                  refine lv_iconst (v := 4) hx hb dX2_isSame_213 (by decide) ?_
                  refine s_ldF hx hb hK hP (σ := σ) (n := n) (k := k) (q := q) (sm := sm) (w0 := []) (w2 := (oC ob h h2) ++ ((mC cI cZ h a σ) ++ (mC cI cZ h2 a2 ρ_78))) rfl i (by omega) 4 rfl (by decide) (v := σ 4 i) rfl dX2_isSame_214 ?_
                  refine lv_iconst (v := 1) hx hb dX2_isSame_215 (by decide) ?_
                  refine lv_icmp_ne (tgt := 223) hx hb dX2_isSame_216 (by decide) (fun c_216 => ?_) (fun c_216 => ?_)
                  · refine lv_iconst (v := 0) hx hb dX2_isSame_223 (by decide) ?_
                    refine lv_icmp_ne (tgt := 253) hx hb dX2_isSame_224 (by decide) (fun z => absurd (b01_0 (hB.2.2.2.2.1 i (by omega)) c_216) z) (fun c_224 => ?_)
                    refine lv_aload_n hx hb dX2_isSame_227 rfl (lv_at hl 8 rfl) ?_
                    refine lv_iload hx hb dX2_isSame_228 (lv_at hl 10 rfl) ?_
                    refine MX.callV0 (C := RX1) (T := TX1) (N := 2) (As := [.int (nI i)]) (rest := []) (w0 := sC cI cL sm q σ n k) (w2 := []) (wB := fun ρ => (sC cI cL sm q σ n k) ++ ((oC ob h h2) ++ ((mC cI cZ h a σ) ++ (mC cI cZ h2 a2 ρ)))) (c_X1_drainsAt l D cI cZ cL ob h a h2 a2 σ ρ_78 hst i (by omega)) ⟨hx, hb, hml, hown, hts⟩ q498 b_X1_drainsAt (n := 1) (by decide +kernel) ⟨(Nat.le_of_ble_eq_true rfl), (Nat.le_of_ble_eq_true rfl)⟩ hK hP hD hS hA hE (by rw [List.append_nil]) (fun _ => by rw [List.append_nil]) (ci := 1) rfl rfl rfl hl.1 rfl (Nat.le_of_ble_eq_true rfl) dX2_isSame_230 ⟨by show (2 * i) + 0 ≤ 40; omega, by show (20 * i) + 0 ≤ 400; omega⟩ (fun ρ_79 H locs hP hD hS => ?_)
                    have hP : va_P D vwCl ((sC cI cL sm q σ n k) ++ ((oC ob h h2) ++ ((mC cI cZ h a σ) ++ (mC cI cZ h2 a2 ρ_79)))) H := hP
                    have hD : va_D A ((sC cI cL sm q σ n k) ++ ((oC ob h h2) ++ ((mC cI cZ h a σ) ++ (mC cI cZ h2 a2 ρ_79)))) := hD
                    refine W.wide (k := (2 * i)) (n := (20 * i)) (by show (2 * i) + 0 ≤ (2 * i); omega) (by show (20 * i) + 0 ≤ (20 * i); omega) ?_
                    refine lv_iload hx hb dX2_isSame_233 (lv_at hl 11 rfl) ?_
                    refine lv_icmp_ne (tgt := 253) hx hb dX2_isSame_235 (by decide) (fun z => absurd (by unfold openS; rw [hst.eD, show k = d by omega]) z) (fun c_235 => ?_)
                    refine lv_aload_n hx hb dX2_isSame_238 rfl (lv_at hl 8 rfl) ?_
                    refine lv_iload hx hb dX2_isSame_239 (lv_at hl 10 rfl) ?_
                    refine MX.callV0 (C := RX1) (T := TX1) (N := 2) (As := [.int (nI i)]) (rest := []) (w0 := sC cI cL sm q σ n k) (w2 := []) (wB := fun ρ => (sC cI cL sm q σ n k) ++ ((oC ob h h2) ++ ((mC cI cZ h a σ) ++ (mC cI cZ h2 a2 ρ)))) (c_X1_reaches l D cI cZ cL ob h a h2 a2 σ ρ_79 hst i (by omega)) ⟨hx, hb, hml, hown, hts⟩ q499 b_X1_reaches (n := 1) (by decide +kernel) ⟨(Nat.le_of_ble_eq_true rfl), (Nat.le_of_ble_eq_true rfl)⟩ hK hP hD hS hA hE (by rw [List.append_nil]) (fun _ => by rw [List.append_nil]) (ci := 1) rfl rfl rfl hl.1 rfl (Nat.le_of_ble_eq_true rfl) dX2_isSame_241 ⟨by show (2 * i) + 0 ≤ 40; omega, by show (20 * i) + 0 ≤ 400; omega⟩ (fun ρ_80 H locs hP hD hS => ?_)
                    have hP : va_P D vwCl ((sC cI cL sm q σ n k) ++ ((oC ob h h2) ++ ((mC cI cZ h a σ) ++ (mC cI cZ h2 a2 ρ_80)))) H := hP
                    have hD : va_D A ((sC cI cL sm q σ n k) ++ ((oC ob h h2) ++ ((mC cI cZ h a σ) ++ (mC cI cZ h2 a2 ρ_80)))) := hD
                    refine W.wide (k := (2 * i)) (n := (20 * i)) (by show (2 * i) + 0 ≤ (2 * i); omega) (by show (20 * i) + 0 ≤ (20 * i); omega) ?_
                    refine lv_aload_n hx hb dX2_isSame_244 rfl (lv_at hl 7 rfl) ?_
                    refine lv_iload hx hb dX2_isSame_245 (lv_at hl 10 rfl) ?_
                    refine MY.callV0 (C := RX2) (T := TX2) (N := 5) (As := [.int (nI i)]) (rest := [.int (reachS σ i)]) (w0 := []) (w2 := (oC ob h h2) ++ ((mC cI cZ h a σ) ++ (mC cI cZ h2 a2 ρ_80))) (wB := fun y => (sC cI cL sm q σ n k) ++ ((oC ob h h2) ++ ((mC cI cZ h a σ) ++ (mC cI cZ h2 a2 ρ_80)))) (c_X2_reaches l D cI cZ cL sm q σ hst i (by omega)) ⟨hx, hb, hml, hown, hts⟩ q500 b_X2_reaches (n := 1) (by decide +kernel) ⟨(Nat.le_of_ble_eq_true rfl), (Nat.le_of_ble_eq_true rfl)⟩ hK hP hD hS hA (EY.non hE) (by simp only [List.append_assoc, List.append_nil, List.nil_append]) (fun _ => by simp only [List.append_assoc, List.append_nil, List.nil_append]) (ci := 2) rfl rfl rfl hl.1 rfl (Nat.le_of_ble_eq_true rfl) dX2_isSame_247 ⟨by show (2 * i) + 1 ≤ 40; omega, by show (20 * i) + 10 ≤ 400; omega⟩ (fun y H locs hP hD hS => ?_)
                    have hP : va_P D vwCl ((sC cI cL sm q σ n k) ++ ((oC ob h h2) ++ ((mC cI cZ h a σ) ++ (mC cI cZ h2 a2 ρ_80)))) H := hP
                    have hD : va_D A ((sC cI cL sm q σ n k) ++ ((oC ob h h2) ++ ((mC cI cZ h a σ) ++ (mC cI cZ h2 a2 ρ_80)))) := hD
                    refine W.wide (k := ((2 * i) + 1)) (n := ((20 * i) + 10)) (by show (2 * i) + 1 ≤ ((2 * i) + 1); omega) (by show (20 * i) + 10 ≤ ((20 * i) + 10); omega) ?_
                    refine lv_icmp_eq (tgt := 255) hx hb dX2_isSame_250 (by decide) (fun c_250 => ?_) (fun z => absurd (rfl) z)
                    refine lv_iinc (v := (nI (i + 1))) (lv' := [(7, .int (nI (i + 1))), (5, .int (amax (fun q => σ 0 q + σ 2 q) (i + 1))), (4, .int (sumI (fun f => if σ 4 f = 0 then (0 : Int32) else 1) (i + 1))), (3, .int (sumI (fun f => isW σ f) (i + 1))), (2, .int (sumI (fun f => σ 2 f) (i + 1))), (11, .int (nI k)), (10, .ref q.1.2), (8, .ref (q.2.1 i)), (0, .ref sm), (1, .ref ob), (6, .int (-1)), (9, .int (sumI (fun d => opB σ i d) d)), (12, .int (nI d))]) hx hb dX2_isSame_255 hl (k := 10) rfl (nI_add i 1) (by decide) rfl (fun ls hl => ?_)
                    refine lv_goto (tgt := 16) hx hb dX2_isSame_258 (by decide) ?_
                    refine W.wide (k := 2 * (i + 1)) (n := 20 * (i + 1)) (by first | omega | exact Nat.le_of_ble_eq_true rfl) (by first | omega | exact Nat.le_of_ble_eq_true rfl) ?_
                    exact ih_16 (i + 1) ρ_80 (by omega) (by omega) _ _ _ hP hD hS (lv_sub hl [8, 9, 4, 3, 2, 1, 10, 0] rfl)
                  · refine lv_iconst (v := 1) hx hb dX2_isSame_219 (by decide) ?_
                    refine lv_goto (tgt := 224) hx hb dX2_isSame_220 (by decide) ?_
                    refine lv_icmp_ne (tgt := 253) hx hb dX2_isSame_224 (by decide) (fun z => absurd (c_216) z) (fun c_224 => ?_)
                    refine lv_aload_n hx hb dX2_isSame_227 rfl (lv_at hl 8 rfl) ?_
                    refine lv_iload hx hb dX2_isSame_228 (lv_at hl 10 rfl) ?_
                    refine MX.callV0 (C := RX1) (T := TX1) (N := 2) (As := [.int (nI i)]) (rest := []) (w0 := sC cI cL sm q σ n k) (w2 := []) (wB := fun ρ => (sC cI cL sm q σ n k) ++ ((oC ob h h2) ++ ((mC cI cZ h a σ) ++ (mC cI cZ h2 a2 ρ)))) (c_X1_drainsAt l D cI cZ cL ob h a h2 a2 σ ρ_78 hst i (by omega)) ⟨hx, hb, hml, hown, hts⟩ q498 b_X1_drainsAt (n := 1) (by decide +kernel) ⟨(Nat.le_of_ble_eq_true rfl), (Nat.le_of_ble_eq_true rfl)⟩ hK hP hD hS hA hE (by rw [List.append_nil]) (fun _ => by rw [List.append_nil]) (ci := 1) rfl rfl rfl hl.1 rfl (Nat.le_of_ble_eq_true rfl) dX2_isSame_230 ⟨by show (2 * i) + 0 ≤ 40; omega, by show (20 * i) + 0 ≤ 400; omega⟩ (fun ρ_81 H locs hP hD hS => ?_)
                    have hP : va_P D vwCl ((sC cI cL sm q σ n k) ++ ((oC ob h h2) ++ ((mC cI cZ h a σ) ++ (mC cI cZ h2 a2 ρ_81)))) H := hP
                    have hD : va_D A ((sC cI cL sm q σ n k) ++ ((oC ob h h2) ++ ((mC cI cZ h a σ) ++ (mC cI cZ h2 a2 ρ_81)))) := hD
                    refine W.wide (k := (2 * i)) (n := (20 * i)) (by show (2 * i) + 0 ≤ (2 * i); omega) (by show (20 * i) + 0 ≤ (20 * i); omega) ?_
                    refine lv_iload hx hb dX2_isSame_233 (lv_at hl 11 rfl) ?_
                    refine lv_icmp_ne (tgt := 253) hx hb dX2_isSame_235 (by decide) (fun z => absurd (by unfold openS; rw [hst.eD, show k = d by omega]) z) (fun c_235 => ?_)
                    refine lv_aload_n hx hb dX2_isSame_238 rfl (lv_at hl 8 rfl) ?_
                    refine lv_iload hx hb dX2_isSame_239 (lv_at hl 10 rfl) ?_
                    refine MX.callV0 (C := RX1) (T := TX1) (N := 2) (As := [.int (nI i)]) (rest := []) (w0 := sC cI cL sm q σ n k) (w2 := []) (wB := fun ρ => (sC cI cL sm q σ n k) ++ ((oC ob h h2) ++ ((mC cI cZ h a σ) ++ (mC cI cZ h2 a2 ρ)))) (c_X1_reaches l D cI cZ cL ob h a h2 a2 σ ρ_81 hst i (by omega)) ⟨hx, hb, hml, hown, hts⟩ q499 b_X1_reaches (n := 1) (by decide +kernel) ⟨(Nat.le_of_ble_eq_true rfl), (Nat.le_of_ble_eq_true rfl)⟩ hK hP hD hS hA hE (by rw [List.append_nil]) (fun _ => by rw [List.append_nil]) (ci := 1) rfl rfl rfl hl.1 rfl (Nat.le_of_ble_eq_true rfl) dX2_isSame_241 ⟨by show (2 * i) + 0 ≤ 40; omega, by show (20 * i) + 0 ≤ 400; omega⟩ (fun ρ_82 H locs hP hD hS => ?_)
                    have hP : va_P D vwCl ((sC cI cL sm q σ n k) ++ ((oC ob h h2) ++ ((mC cI cZ h a σ) ++ (mC cI cZ h2 a2 ρ_82)))) H := hP
                    have hD : va_D A ((sC cI cL sm q σ n k) ++ ((oC ob h h2) ++ ((mC cI cZ h a σ) ++ (mC cI cZ h2 a2 ρ_82)))) := hD
                    refine W.wide (k := (2 * i)) (n := (20 * i)) (by show (2 * i) + 0 ≤ (2 * i); omega) (by show (20 * i) + 0 ≤ (20 * i); omega) ?_
                    refine lv_aload_n hx hb dX2_isSame_244 rfl (lv_at hl 7 rfl) ?_
                    refine lv_iload hx hb dX2_isSame_245 (lv_at hl 10 rfl) ?_
                    refine MY.callV0 (C := RX2) (T := TX2) (N := 5) (As := [.int (nI i)]) (rest := [.int (reachS σ i)]) (w0 := []) (w2 := (oC ob h h2) ++ ((mC cI cZ h a σ) ++ (mC cI cZ h2 a2 ρ_82))) (wB := fun y => (sC cI cL sm q σ n k) ++ ((oC ob h h2) ++ ((mC cI cZ h a σ) ++ (mC cI cZ h2 a2 ρ_82)))) (c_X2_reaches l D cI cZ cL sm q σ hst i (by omega)) ⟨hx, hb, hml, hown, hts⟩ q500 b_X2_reaches (n := 1) (by decide +kernel) ⟨(Nat.le_of_ble_eq_true rfl), (Nat.le_of_ble_eq_true rfl)⟩ hK hP hD hS hA (EY.non hE) (by simp only [List.append_assoc, List.append_nil, List.nil_append]) (fun _ => by simp only [List.append_assoc, List.append_nil, List.nil_append]) (ci := 2) rfl rfl rfl hl.1 rfl (Nat.le_of_ble_eq_true rfl) dX2_isSame_247 ⟨by show (2 * i) + 1 ≤ 40; omega, by show (20 * i) + 10 ≤ 400; omega⟩ (fun y H locs hP hD hS => ?_)
                    have hP : va_P D vwCl ((sC cI cL sm q σ n k) ++ ((oC ob h h2) ++ ((mC cI cZ h a σ) ++ (mC cI cZ h2 a2 ρ_82)))) H := hP
                    have hD : va_D A ((sC cI cL sm q σ n k) ++ ((oC ob h h2) ++ ((mC cI cZ h a σ) ++ (mC cI cZ h2 a2 ρ_82)))) := hD
                    refine W.wide (k := ((2 * i) + 1)) (n := ((20 * i) + 10)) (by show (2 * i) + 1 ≤ ((2 * i) + 1); omega) (by show (20 * i) + 10 ≤ ((20 * i) + 10); omega) ?_
                    refine lv_icmp_eq (tgt := 255) hx hb dX2_isSame_250 (by decide) (fun c_250 => ?_) (fun z => absurd (rfl) z)
                    refine lv_iinc (v := (nI (i + 1))) (lv' := [(7, .int (nI (i + 1))), (5, .int (amax (fun q => σ 0 q + σ 2 q) (i + 1))), (4, .int (sumI (fun f => if σ 4 f = 0 then (0 : Int32) else 1) (i + 1))), (3, .int (sumI (fun f => isW σ f) (i + 1))), (2, .int (sumI (fun f => σ 2 f) (i + 1))), (11, .int (nI k)), (10, .ref q.1.2), (8, .ref (q.2.1 i)), (0, .ref sm), (1, .ref ob), (6, .int (-1)), (9, .int (sumI (fun d => opB σ i d) d)), (12, .int (nI d))]) hx hb dX2_isSame_255 hl (k := 10) rfl (nI_add i 1) (by decide) rfl (fun ls hl => ?_)
                    refine lv_goto (tgt := 16) hx hb dX2_isSame_258 (by decide) ?_
                    refine W.wide (k := 2 * (i + 1)) (n := 20 * (i + 1)) (by first | omega | exact Nat.le_of_ble_eq_true rfl) (by first | omega | exact Nat.le_of_ble_eq_true rfl) ?_
                    exact ih_16 (i + 1) ρ_82 (by omega) (by omega) _ _ _ hP hD hS (lv_sub hl [8, 9, 4, 3, 2, 1, 10, 0] rfl)
                · rw [hm] at hl
                  refine lv_iload hx hb dX2_isSame_140 (lv_at hl 8 rfl) ?_
                  refine lv_if_lt (tgt := 160) hx hb dX2_isSame_142 (by decide) (fun z => absurd z (Int32.not_lt.mpr (nI_pos' (by omega)))) (fun c_142 => ?_)
                  refine lv_aload_n hx hb dX2_isSame_145 rfl (lv_at hl 6 rfl) ?_
                  refine lv_iload hx hb dX2_isSame_146 (lv_at hl 10 rfl) ?_
                  refine MC.callV0 (C := RX2) (T := TX2) (N := 5) (As := [.int (nI i)]) (rest := []) (w0 := []) (w2 := (oC ob h h2) ++ ((mC cI cZ h a σ) ++ (mC cI cZ h2 a2 ρ))) (wB := (sC cI cL sm q σ n k) ++ ((oC ob h h2) ++ ((mC cI cZ h a σ) ++ (mC cI cZ h2 a2 ρ)))) (c_X2_level l D cI cZ cL sm q σ hst i (by omega)) ⟨hx, hb, hml, hown, hts⟩ q471 b_X2_level (n := 1) (by decide +kernel) ⟨(Nat.le_of_ble_eq_true rfl), (Nat.le_of_ble_eq_true rfl)⟩ hK hP hD hS hA rfl rfl (ci := 2) rfl rfl rfl hl.1 rfl (Nat.le_of_ble_eq_true rfl) dX2_isSame_148 ⟨by show (2 * i) + 0 ≤ 40; omega, by show (20 * i) + 0 ≤ 400; omega⟩ (fun H locs hP hD hS => ?_)
                  refine W.wide (k := (2 * i)) (n := (20 * i)) (by show (2 * i) + 0 ≤ (2 * i); omega) (by show (20 * i) + 0 ≤ (20 * i); omega) ?_
                  refine lv_aload_n hx hb dX2_isSame_151 rfl (lv_at hl 6 rfl) ?_
                  refine lv_iload hx hb dX2_isSame_152 (lv_at hl 8 rfl) ?_
                  refine MC.callV0 (C := RX2) (T := TX2) (N := 5) (As := [.int (nI jm)]) (rest := [.int (σ 0 i + σ 2 i)]) (w0 := []) (w2 := (oC ob h h2) ++ ((mC cI cZ h a σ) ++ (mC cI cZ h2 a2 ρ))) (wB := (sC cI cL sm q σ n k) ++ ((oC ob h h2) ++ ((mC cI cZ h a σ) ++ (mC cI cZ h2 a2 ρ)))) (c_X2_level l D cI cZ cL sm q σ hst jm (by omega)) ⟨hx, hb, hml, hown, hts⟩ q471 b_X2_level (n := 1) (by decide +kernel) ⟨(Nat.le_of_ble_eq_true rfl), (Nat.le_of_ble_eq_true rfl)⟩ hK hP hD hS hA rfl rfl (ci := 2) rfl rfl rfl hl.1 rfl (Nat.le_of_ble_eq_true rfl) dX2_isSame_154 ⟨by show (2 * i) + 0 ≤ 40; omega, by show (20 * i) + 0 ≤ 400; omega⟩ (fun H locs hP hD hS => ?_)
                  refine W.wide (k := (2 * i)) (n := (20 * i)) (by show (2 * i) + 0 ≤ (2 * i); omega) (by show (20 * i) + 0 ≤ (20 * i); omega) ?_
                  refine lv_icmp_le (tgt := 164) hx hb dX2_isSame_157 (by decide) (fun c_157 => ?_) (fun c_157 => ?_)
                  · have e6 : (nI jm) = amax (fun q => σ 0 q + σ 2 q) (i + 1) := amax_c3 (f := (fun q => σ 0 q + σ 2 q)) hm (by omega) c_157
                    have hl : lv_has ls 14 [(4, .int (sumI (fun f => if σ 4 f = 0 then (0 : Int32) else 1) (i + 1))), (3, .int (sumI (fun f => isW σ f) (i + 1))), (2, .int (sumI (fun f => σ 2 f) (i + 1))), (11, .int (nI k)), (10, .ref q.1.2), (8, .ref (q.2.1 i)), (0, .ref sm), (1, .ref ob), (5, .int (amax (fun q => σ 0 q + σ 2 q) (i + 1))), (6, .int (-1)), (7, .int (nI i)), (9, .int (sumI (fun d => opB σ i d) d)), (12, .int (nI d))] := by rw [← e6]; exact hl
                    refine lv_aload_n hx hb dX2_isSame_164 rfl (lv_at hl 7 rfl) ?_
                    refine lv_iload hx hb dX2_isSame_165 (lv_at hl 10 rfl) ?_
                    refine MX.callV0 (C := RX1) (T := TX1) (N := 2) (As := [.int (nI i)]) (rest := []) (w0 := sC cI cL sm q σ n k) (w2 := []) (wB := fun ρ => (sC cI cL sm q σ n k) ++ ((oC ob h h2) ++ ((mC cI cZ h a σ) ++ (mC cI cZ h2 a2 ρ)))) (c_X1_waterOn l D cI cZ cL ob h a h2 a2 σ ρ hst i (by omega)) ⟨hx, hb, hml, hown, hts⟩ q494 b_X1_waterOn (n := 1) (by decide +kernel) ⟨(Nat.le_of_ble_eq_true rfl), (Nat.le_of_ble_eq_true rfl)⟩ hK hP hD hS hA hE (by rw [List.append_nil]) (fun _ => by rw [List.append_nil]) (ci := 1) rfl rfl rfl hl.1 rfl (Nat.le_of_ble_eq_true rfl) dX2_isSame_167 ⟨by show (2 * i) + 0 ≤ 40; omega, by show (20 * i) + 0 ≤ 400; omega⟩ (fun ρ_83 H locs hP hD hS => ?_)
                    have hP : va_P D vwCl ((sC cI cL sm q σ n k) ++ ((oC ob h h2) ++ ((mC cI cZ h a σ) ++ (mC cI cZ h2 a2 ρ_83)))) H := hP
                    have hD : va_D A ((sC cI cL sm q σ n k) ++ ((oC ob h h2) ++ ((mC cI cZ h a σ) ++ (mC cI cZ h2 a2 ρ_83)))) := hD
                    refine W.wide (k := (2 * i)) (n := (20 * i)) (by show (2 * i) + 0 ≤ (2 * i); omega) (by show (20 * i) + 0 ≤ (20 * i); omega) ?_
                    refine lv_aload hx hb dX2_isSame_170 (lv_at hl 5 rfl) ?_
                    refine lv_iconst (v := 2) hx hb dX2_isSame_172 (by decide) ?_
                    refine s_ldF hx hb hK hP (σ := σ) (n := n) (k := k) (q := q) (sm := sm) (w0 := []) (w2 := (oC ob h h2) ++ ((mC cI cZ h a σ) ++ (mC cI cZ h2 a2 ρ_83))) rfl i (by omega) 2 rfl (by decide) (v := σ 2 i) rfl dX2_isSame_173 ?_
                    refine lv_icmp_ne (tgt := 253) hx hb dX2_isSame_174 (by decide) (fun z => absurd (rfl) z) (fun c_174 => ?_)
                    refine lv_aload_n hx hb dX2_isSame_177 rfl (lv_at hl 7 rfl) ?_
                    refine lv_iload hx hb dX2_isSame_178 (lv_at hl 10 rfl) ?_
                    refine MX.callV0 (C := RX1) (T := TX1) (N := 2) (As := [.int (nI i)]) (rest := []) (w0 := sC cI cL sm q σ n k) (w2 := []) (wB := fun ρ => (sC cI cL sm q σ n k) ++ ((oC ob h h2) ++ ((mC cI cZ h a σ) ++ (mC cI cZ h2 a2 ρ)))) (c_X1_levelOf l D cI cZ cL ob h a h2 a2 σ ρ_83 hst i (by omega)) ⟨hx, hb, hml, hown, hts⟩ q495 b_X1_levelOf (n := 1) (by decide +kernel) ⟨(Nat.le_of_ble_eq_true rfl), (Nat.le_of_ble_eq_true rfl)⟩ hK hP hD hS hA hE (by rw [List.append_nil]) (fun _ => by rw [List.append_nil]) (ci := 1) rfl rfl rfl hl.1 rfl (Nat.le_of_ble_eq_true rfl) dX2_isSame_180 ⟨by show (2 * i) + 0 ≤ 40; omega, by show (20 * i) + 0 ≤ 400; omega⟩ (fun ρ_84 H locs hP hD hS => ?_)
                    have hP : va_P D vwCl ((sC cI cL sm q σ n k) ++ ((oC ob h h2) ++ ((mC cI cZ h a σ) ++ (mC cI cZ h2 a2 ρ_84)))) H := hP
                    have hD : va_D A ((sC cI cL sm q σ n k) ++ ((oC ob h h2) ++ ((mC cI cZ h a σ) ++ (mC cI cZ h2 a2 ρ_84)))) := hD
                    refine W.wide (k := (2 * i)) (n := (20 * i)) (by show (2 * i) + 0 ≤ (2 * i); omega) (by show (20 * i) + 0 ≤ (20 * i); omega) ?_
                    refine lv_aload_n hx hb dX2_isSame_183 rfl (lv_at hl 6 rfl) ?_
                    refine lv_iload hx hb dX2_isSame_184 (lv_at hl 10 rfl) ?_
                    refine MC.callV0 (C := RX2) (T := TX2) (N := 5) (As := [.int (nI i)]) (rest := [.int (σ 0 i + σ 2 i)]) (w0 := []) (w2 := (oC ob h h2) ++ ((mC cI cZ h a σ) ++ (mC cI cZ h2 a2 ρ_84))) (wB := (sC cI cL sm q σ n k) ++ ((oC ob h h2) ++ ((mC cI cZ h a σ) ++ (mC cI cZ h2 a2 ρ_84)))) (c_X2_level l D cI cZ cL sm q σ hst i (by omega)) ⟨hx, hb, hml, hown, hts⟩ q471 b_X2_level (n := 1) (by decide +kernel) ⟨(Nat.le_of_ble_eq_true rfl), (Nat.le_of_ble_eq_true rfl)⟩ hK hP hD hS hA rfl rfl (ci := 2) rfl rfl rfl hl.1 rfl (Nat.le_of_ble_eq_true rfl) dX2_isSame_186 ⟨by show (2 * i) + 0 ≤ 40; omega, by show (20 * i) + 0 ≤ 400; omega⟩ (fun H locs hP hD hS => ?_)
                    refine W.wide (k := (2 * i)) (n := (20 * i)) (by show (2 * i) + 0 ≤ (2 * i); omega) (by show (20 * i) + 0 ≤ (20 * i); omega) ?_
                    refine lv_icmp_ne (tgt := 253) hx hb dX2_isSame_189 (by decide) (fun z => absurd (rfl) z) (fun c_189 => ?_)
                    refine lv_aload_n hx hb dX2_isSame_192 rfl (lv_at hl 7 rfl) ?_
                    refine lv_iload hx hb dX2_isSame_193 (lv_at hl 10 rfl) ?_
                    refine MX.callV0 (C := RX1) (T := TX1) (N := 2) (As := [.int (nI i)]) (rest := []) (w0 := sC cI cL sm q σ n k) (w2 := []) (wB := fun ρ => (sC cI cL sm q σ n k) ++ ((oC ob h h2) ++ ((mC cI cZ h a σ) ++ (mC cI cZ h2 a2 ρ)))) (c_X1_wetFor l D cI cZ cL ob h a h2 a2 σ ρ_84 hst i (by omega)) ⟨hx, hb, hml, hown, hts⟩ q496 b_X1_wetFor (n := 1) (by decide +kernel) ⟨(Nat.le_of_ble_eq_true rfl), (Nat.le_of_ble_eq_true rfl)⟩ hK hP hD hS hA hE (by rw [List.append_nil]) (fun _ => by rw [List.append_nil]) (ci := 1) rfl rfl rfl hl.1 rfl (Nat.le_of_ble_eq_true rfl) dX2_isSame_195 ⟨by show (2 * i) + 0 ≤ 40; omega, by show (20 * i) + 0 ≤ 400; omega⟩ (fun ρ_85 H locs hP hD hS => ?_)
                    have hP : va_P D vwCl ((sC cI cL sm q σ n k) ++ ((oC ob h h2) ++ ((mC cI cZ h a σ) ++ (mC cI cZ h2 a2 ρ_85)))) H := hP
                    have hD : va_D A ((sC cI cL sm q σ n k) ++ ((oC ob h h2) ++ ((mC cI cZ h a σ) ++ (mC cI cZ h2 a2 ρ_85)))) := hD
                    refine W.wide (k := (2 * i)) (n := (20 * i)) (by show (2 * i) + 0 ≤ (2 * i); omega) (by show (20 * i) + 0 ≤ (20 * i); omega) ?_
                    refine lv_aload hx hb dX2_isSame_198 (lv_at hl 5 rfl) ?_
                    refine lv_iconst (v := 3) hx hb dX2_isSame_200 (by decide) ?_
                    refine s_ldF hx hb hK hP (σ := σ) (n := n) (k := k) (q := q) (sm := sm) (w0 := []) (w2 := (oC ob h h2) ++ ((mC cI cZ h a σ) ++ (mC cI cZ h2 a2 ρ_85))) rfl i (by omega) 3 rfl (by decide) (v := σ 3 i) rfl dX2_isSame_201 ?_
                    refine lv_icmp_ne (tgt := 253) hx hb dX2_isSame_202 (by decide) (fun z => absurd (rfl) z) (fun c_202 => ?_)
                    refine lv_aload_n hx hb dX2_isSame_205 rfl (lv_at hl 7 rfl) ?_
                    refine lv_iload hx hb dX2_isSame_206 (lv_at hl 10 rfl) ?_
                    refine MX.callV0 (C := RX1) (T := TX1) (N := 2) (As := [.int (nI i)]) (rest := []) (w0 := sC cI cL sm q σ n k) (w2 := []) (wB := fun ρ => (sC cI cL sm q σ n k) ++ ((oC ob h h2) ++ ((mC cI cZ h a σ) ++ (mC cI cZ h2 a2 ρ)))) (c_X1_isRuined l D cI cZ cL ob h a h2 a2 σ ρ_85 hst hB i (by omega)) ⟨hx, hb, hml, hown, hts⟩ q497 b_X1_isRuined (n := 1) (by decide +kernel) ⟨(Nat.le_of_ble_eq_true rfl), (Nat.le_of_ble_eq_true rfl)⟩ hK hP hD hS hA hE (by rw [List.append_nil]) (fun _ => by rw [List.append_nil]) (ci := 1) rfl rfl rfl hl.1 rfl (Nat.le_of_ble_eq_true rfl) dX2_isSame_208 ⟨by show (2 * i) + 0 ≤ 40; omega, by show (20 * i) + 0 ≤ 400; omega⟩ (fun ρ_86 H locs hP hD hS => ?_)
                    have hP : va_P D vwCl ((sC cI cL sm q σ n k) ++ ((oC ob h h2) ++ ((mC cI cZ h a σ) ++ (mC cI cZ h2 a2 ρ_86)))) H := hP
                    have hD : va_D A ((sC cI cL sm q σ n k) ++ ((oC ob h h2) ++ ((mC cI cZ h a σ) ++ (mC cI cZ h2 a2 ρ_86)))) := hD
                    refine W.wide (k := (2 * i)) (n := (20 * i)) (by show (2 * i) + 0 ≤ (2 * i); omega) (by show (20 * i) + 0 ≤ (20 * i); omega) ?_
                    refine lv_aload hx hb dX2_isSame_211 (lv_at hl 5 rfl) ?_
                    refine lv_iconst (v := 4) hx hb dX2_isSame_213 (by decide) ?_
                    refine s_ldF hx hb hK hP (σ := σ) (n := n) (k := k) (q := q) (sm := sm) (w0 := []) (w2 := (oC ob h h2) ++ ((mC cI cZ h a σ) ++ (mC cI cZ h2 a2 ρ_86))) rfl i (by omega) 4 rfl (by decide) (v := σ 4 i) rfl dX2_isSame_214 ?_
                    refine lv_iconst (v := 1) hx hb dX2_isSame_215 (by decide) ?_
                    refine lv_icmp_ne (tgt := 223) hx hb dX2_isSame_216 (by decide) (fun c_216 => ?_) (fun c_216 => ?_)
                    · refine lv_iconst (v := 0) hx hb dX2_isSame_223 (by decide) ?_
                      refine lv_icmp_ne (tgt := 253) hx hb dX2_isSame_224 (by decide) (fun z => absurd (b01_0 (hB.2.2.2.2.1 i (by omega)) c_216) z) (fun c_224 => ?_)
                      refine lv_aload_n hx hb dX2_isSame_227 rfl (lv_at hl 7 rfl) ?_
                      refine lv_iload hx hb dX2_isSame_228 (lv_at hl 10 rfl) ?_
                      refine MX.callV0 (C := RX1) (T := TX1) (N := 2) (As := [.int (nI i)]) (rest := []) (w0 := sC cI cL sm q σ n k) (w2 := []) (wB := fun ρ => (sC cI cL sm q σ n k) ++ ((oC ob h h2) ++ ((mC cI cZ h a σ) ++ (mC cI cZ h2 a2 ρ)))) (c_X1_drainsAt l D cI cZ cL ob h a h2 a2 σ ρ_86 hst i (by omega)) ⟨hx, hb, hml, hown, hts⟩ q498 b_X1_drainsAt (n := 1) (by decide +kernel) ⟨(Nat.le_of_ble_eq_true rfl), (Nat.le_of_ble_eq_true rfl)⟩ hK hP hD hS hA hE (by rw [List.append_nil]) (fun _ => by rw [List.append_nil]) (ci := 1) rfl rfl rfl hl.1 rfl (Nat.le_of_ble_eq_true rfl) dX2_isSame_230 ⟨by show (2 * i) + 0 ≤ 40; omega, by show (20 * i) + 0 ≤ 400; omega⟩ (fun ρ_87 H locs hP hD hS => ?_)
                      have hP : va_P D vwCl ((sC cI cL sm q σ n k) ++ ((oC ob h h2) ++ ((mC cI cZ h a σ) ++ (mC cI cZ h2 a2 ρ_87)))) H := hP
                      have hD : va_D A ((sC cI cL sm q σ n k) ++ ((oC ob h h2) ++ ((mC cI cZ h a σ) ++ (mC cI cZ h2 a2 ρ_87)))) := hD
                      refine W.wide (k := (2 * i)) (n := (20 * i)) (by show (2 * i) + 0 ≤ (2 * i); omega) (by show (20 * i) + 0 ≤ (20 * i); omega) ?_
                      refine lv_iload hx hb dX2_isSame_233 (lv_at hl 11 rfl) ?_
                      refine lv_icmp_ne (tgt := 253) hx hb dX2_isSame_235 (by decide) (fun z => absurd (by unfold openS; rw [hst.eD, show k = d by omega]) z) (fun c_235 => ?_)
                      refine lv_aload_n hx hb dX2_isSame_238 rfl (lv_at hl 7 rfl) ?_
                      refine lv_iload hx hb dX2_isSame_239 (lv_at hl 10 rfl) ?_
                      refine MX.callV0 (C := RX1) (T := TX1) (N := 2) (As := [.int (nI i)]) (rest := []) (w0 := sC cI cL sm q σ n k) (w2 := []) (wB := fun ρ => (sC cI cL sm q σ n k) ++ ((oC ob h h2) ++ ((mC cI cZ h a σ) ++ (mC cI cZ h2 a2 ρ)))) (c_X1_reaches l D cI cZ cL ob h a h2 a2 σ ρ_87 hst i (by omega)) ⟨hx, hb, hml, hown, hts⟩ q499 b_X1_reaches (n := 1) (by decide +kernel) ⟨(Nat.le_of_ble_eq_true rfl), (Nat.le_of_ble_eq_true rfl)⟩ hK hP hD hS hA hE (by rw [List.append_nil]) (fun _ => by rw [List.append_nil]) (ci := 1) rfl rfl rfl hl.1 rfl (Nat.le_of_ble_eq_true rfl) dX2_isSame_241 ⟨by show (2 * i) + 0 ≤ 40; omega, by show (20 * i) + 0 ≤ 400; omega⟩ (fun ρ_88 H locs hP hD hS => ?_)
                      have hP : va_P D vwCl ((sC cI cL sm q σ n k) ++ ((oC ob h h2) ++ ((mC cI cZ h a σ) ++ (mC cI cZ h2 a2 ρ_88)))) H := hP
                      have hD : va_D A ((sC cI cL sm q σ n k) ++ ((oC ob h h2) ++ ((mC cI cZ h a σ) ++ (mC cI cZ h2 a2 ρ_88)))) := hD
                      refine W.wide (k := (2 * i)) (n := (20 * i)) (by show (2 * i) + 0 ≤ (2 * i); omega) (by show (20 * i) + 0 ≤ (20 * i); omega) ?_
                      refine lv_aload_n hx hb dX2_isSame_244 rfl (lv_at hl 6 rfl) ?_
                      refine lv_iload hx hb dX2_isSame_245 (lv_at hl 10 rfl) ?_
                      refine MY.callV0 (C := RX2) (T := TX2) (N := 5) (As := [.int (nI i)]) (rest := [.int (reachS σ i)]) (w0 := []) (w2 := (oC ob h h2) ++ ((mC cI cZ h a σ) ++ (mC cI cZ h2 a2 ρ_88))) (wB := fun y => (sC cI cL sm q σ n k) ++ ((oC ob h h2) ++ ((mC cI cZ h a σ) ++ (mC cI cZ h2 a2 ρ_88)))) (c_X2_reaches l D cI cZ cL sm q σ hst i (by omega)) ⟨hx, hb, hml, hown, hts⟩ q500 b_X2_reaches (n := 1) (by decide +kernel) ⟨(Nat.le_of_ble_eq_true rfl), (Nat.le_of_ble_eq_true rfl)⟩ hK hP hD hS hA (EY.non hE) (by simp only [List.append_assoc, List.append_nil, List.nil_append]) (fun _ => by simp only [List.append_assoc, List.append_nil, List.nil_append]) (ci := 2) rfl rfl rfl hl.1 rfl (Nat.le_of_ble_eq_true rfl) dX2_isSame_247 ⟨by show (2 * i) + 1 ≤ 40; omega, by show (20 * i) + 10 ≤ 400; omega⟩ (fun y H locs hP hD hS => ?_)
                      have hP : va_P D vwCl ((sC cI cL sm q σ n k) ++ ((oC ob h h2) ++ ((mC cI cZ h a σ) ++ (mC cI cZ h2 a2 ρ_88)))) H := hP
                      have hD : va_D A ((sC cI cL sm q σ n k) ++ ((oC ob h h2) ++ ((mC cI cZ h a σ) ++ (mC cI cZ h2 a2 ρ_88)))) := hD
                      refine W.wide (k := ((2 * i) + 1)) (n := ((20 * i) + 10)) (by show (2 * i) + 1 ≤ ((2 * i) + 1); omega) (by show (20 * i) + 10 ≤ ((20 * i) + 10); omega) ?_
                      refine lv_icmp_eq (tgt := 255) hx hb dX2_isSame_250 (by decide) (fun c_250 => ?_) (fun z => absurd (rfl) z)
                      refine lv_iinc (v := (nI (i + 1))) (lv' := [(7, .int (nI (i + 1))), (4, .int (sumI (fun f => if σ 4 f = 0 then (0 : Int32) else 1) (i + 1))), (3, .int (sumI (fun f => isW σ f) (i + 1))), (2, .int (sumI (fun f => σ 2 f) (i + 1))), (11, .int (nI k)), (10, .ref q.1.2), (8, .ref (q.2.1 i)), (0, .ref sm), (1, .ref ob), (5, .int (amax (fun q => σ 0 q + σ 2 q) (i + 1))), (6, .int (-1)), (9, .int (sumI (fun d => opB σ i d) d)), (12, .int (nI d))]) hx hb dX2_isSame_255 hl (k := 10) rfl (nI_add i 1) (by decide) rfl (fun ls hl => ?_)
                      refine lv_goto (tgt := 16) hx hb dX2_isSame_258 (by decide) ?_
                      refine W.wide (k := 2 * (i + 1)) (n := 20 * (i + 1)) (by first | omega | exact Nat.le_of_ble_eq_true rfl) (by first | omega | exact Nat.le_of_ble_eq_true rfl) ?_
                      exact ih_16 (i + 1) ρ_88 (by omega) (by omega) _ _ _ hP hD hS (lv_sub hl [7, 8, 3, 2, 1, 9, 10, 0] rfl)
                    · refine lv_iconst (v := 1) hx hb dX2_isSame_219 (by decide) ?_
                      refine lv_goto (tgt := 224) hx hb dX2_isSame_220 (by decide) ?_
                      refine lv_icmp_ne (tgt := 253) hx hb dX2_isSame_224 (by decide) (fun z => absurd (c_216) z) (fun c_224 => ?_)
                      refine lv_aload_n hx hb dX2_isSame_227 rfl (lv_at hl 7 rfl) ?_
                      refine lv_iload hx hb dX2_isSame_228 (lv_at hl 10 rfl) ?_
                      refine MX.callV0 (C := RX1) (T := TX1) (N := 2) (As := [.int (nI i)]) (rest := []) (w0 := sC cI cL sm q σ n k) (w2 := []) (wB := fun ρ => (sC cI cL sm q σ n k) ++ ((oC ob h h2) ++ ((mC cI cZ h a σ) ++ (mC cI cZ h2 a2 ρ)))) (c_X1_drainsAt l D cI cZ cL ob h a h2 a2 σ ρ_86 hst i (by omega)) ⟨hx, hb, hml, hown, hts⟩ q498 b_X1_drainsAt (n := 1) (by decide +kernel) ⟨(Nat.le_of_ble_eq_true rfl), (Nat.le_of_ble_eq_true rfl)⟩ hK hP hD hS hA hE (by rw [List.append_nil]) (fun _ => by rw [List.append_nil]) (ci := 1) rfl rfl rfl hl.1 rfl (Nat.le_of_ble_eq_true rfl) dX2_isSame_230 ⟨by show (2 * i) + 0 ≤ 40; omega, by show (20 * i) + 0 ≤ 400; omega⟩ (fun ρ_89 H locs hP hD hS => ?_)
                      have hP : va_P D vwCl ((sC cI cL sm q σ n k) ++ ((oC ob h h2) ++ ((mC cI cZ h a σ) ++ (mC cI cZ h2 a2 ρ_89)))) H := hP
                      have hD : va_D A ((sC cI cL sm q σ n k) ++ ((oC ob h h2) ++ ((mC cI cZ h a σ) ++ (mC cI cZ h2 a2 ρ_89)))) := hD
                      refine W.wide (k := (2 * i)) (n := (20 * i)) (by show (2 * i) + 0 ≤ (2 * i); omega) (by show (20 * i) + 0 ≤ (20 * i); omega) ?_
                      refine lv_iload hx hb dX2_isSame_233 (lv_at hl 11 rfl) ?_
                      refine lv_icmp_ne (tgt := 253) hx hb dX2_isSame_235 (by decide) (fun z => absurd (by unfold openS; rw [hst.eD, show k = d by omega]) z) (fun c_235 => ?_)
                      refine lv_aload_n hx hb dX2_isSame_238 rfl (lv_at hl 7 rfl) ?_
                      refine lv_iload hx hb dX2_isSame_239 (lv_at hl 10 rfl) ?_
                      refine MX.callV0 (C := RX1) (T := TX1) (N := 2) (As := [.int (nI i)]) (rest := []) (w0 := sC cI cL sm q σ n k) (w2 := []) (wB := fun ρ => (sC cI cL sm q σ n k) ++ ((oC ob h h2) ++ ((mC cI cZ h a σ) ++ (mC cI cZ h2 a2 ρ)))) (c_X1_reaches l D cI cZ cL ob h a h2 a2 σ ρ_89 hst i (by omega)) ⟨hx, hb, hml, hown, hts⟩ q499 b_X1_reaches (n := 1) (by decide +kernel) ⟨(Nat.le_of_ble_eq_true rfl), (Nat.le_of_ble_eq_true rfl)⟩ hK hP hD hS hA hE (by rw [List.append_nil]) (fun _ => by rw [List.append_nil]) (ci := 1) rfl rfl rfl hl.1 rfl (Nat.le_of_ble_eq_true rfl) dX2_isSame_241 ⟨by show (2 * i) + 0 ≤ 40; omega, by show (20 * i) + 0 ≤ 400; omega⟩ (fun ρ_90 H locs hP hD hS => ?_)
                      have hP : va_P D vwCl ((sC cI cL sm q σ n k) ++ ((oC ob h h2) ++ ((mC cI cZ h a σ) ++ (mC cI cZ h2 a2 ρ_90)))) H := hP
                      have hD : va_D A ((sC cI cL sm q σ n k) ++ ((oC ob h h2) ++ ((mC cI cZ h a σ) ++ (mC cI cZ h2 a2 ρ_90)))) := hD
                      refine W.wide (k := (2 * i)) (n := (20 * i)) (by show (2 * i) + 0 ≤ (2 * i); omega) (by show (20 * i) + 0 ≤ (20 * i); omega) ?_
                      refine lv_aload_n hx hb dX2_isSame_244 rfl (lv_at hl 6 rfl) ?_
                      refine lv_iload hx hb dX2_isSame_245 (lv_at hl 10 rfl) ?_
                      refine MY.callV0 (C := RX2) (T := TX2) (N := 5) (As := [.int (nI i)]) (rest := [.int (reachS σ i)]) (w0 := []) (w2 := (oC ob h h2) ++ ((mC cI cZ h a σ) ++ (mC cI cZ h2 a2 ρ_90))) (wB := fun y => (sC cI cL sm q σ n k) ++ ((oC ob h h2) ++ ((mC cI cZ h a σ) ++ (mC cI cZ h2 a2 ρ_90)))) (c_X2_reaches l D cI cZ cL sm q σ hst i (by omega)) ⟨hx, hb, hml, hown, hts⟩ q500 b_X2_reaches (n := 1) (by decide +kernel) ⟨(Nat.le_of_ble_eq_true rfl), (Nat.le_of_ble_eq_true rfl)⟩ hK hP hD hS hA (EY.non hE) (by simp only [List.append_assoc, List.append_nil, List.nil_append]) (fun _ => by simp only [List.append_assoc, List.append_nil, List.nil_append]) (ci := 2) rfl rfl rfl hl.1 rfl (Nat.le_of_ble_eq_true rfl) dX2_isSame_247 ⟨by show (2 * i) + 1 ≤ 40; omega, by show (20 * i) + 10 ≤ 400; omega⟩ (fun y H locs hP hD hS => ?_)
                      have hP : va_P D vwCl ((sC cI cL sm q σ n k) ++ ((oC ob h h2) ++ ((mC cI cZ h a σ) ++ (mC cI cZ h2 a2 ρ_90)))) H := hP
                      have hD : va_D A ((sC cI cL sm q σ n k) ++ ((oC ob h h2) ++ ((mC cI cZ h a σ) ++ (mC cI cZ h2 a2 ρ_90)))) := hD
                      refine W.wide (k := ((2 * i) + 1)) (n := ((20 * i) + 10)) (by show (2 * i) + 1 ≤ ((2 * i) + 1); omega) (by show (20 * i) + 10 ≤ ((20 * i) + 10); omega) ?_
                      refine lv_icmp_eq (tgt := 255) hx hb dX2_isSame_250 (by decide) (fun c_250 => ?_) (fun z => absurd (rfl) z)
                      refine lv_iinc (v := (nI (i + 1))) (lv' := [(7, .int (nI (i + 1))), (4, .int (sumI (fun f => if σ 4 f = 0 then (0 : Int32) else 1) (i + 1))), (3, .int (sumI (fun f => isW σ f) (i + 1))), (2, .int (sumI (fun f => σ 2 f) (i + 1))), (11, .int (nI k)), (10, .ref q.1.2), (8, .ref (q.2.1 i)), (0, .ref sm), (1, .ref ob), (5, .int (amax (fun q => σ 0 q + σ 2 q) (i + 1))), (6, .int (-1)), (9, .int (sumI (fun d => opB σ i d) d)), (12, .int (nI d))]) hx hb dX2_isSame_255 hl (k := 10) rfl (nI_add i 1) (by decide) rfl (fun ls hl => ?_)
                      refine lv_goto (tgt := 16) hx hb dX2_isSame_258 (by decide) ?_
                      refine W.wide (k := 2 * (i + 1)) (n := 20 * (i + 1)) (by first | omega | exact Nat.le_of_ble_eq_true rfl) (by first | omega | exact Nat.le_of_ble_eq_true rfl) ?_
                      exact ih_16 (i + 1) ρ_90 (by omega) (by omega) _ _ _ hP hD hS (lv_sub hl [7, 8, 3, 2, 1, 9, 10, 0] rfl)
                  · refine lv_iload hx hb dX2_isSame_160 (lv_at hl 10 rfl) ?_
                    refine lv_istore (lv' := [(5, .int (nI i)), (4, .int (sumI (fun f => if σ 4 f = 0 then (0 : Int32) else 1) (i + 1))), (3, .int (sumI (fun f => isW σ f) (i + 1))), (2, .int (sumI (fun f => σ 2 f) (i + 1))), (11, .int (nI k)), (10, .ref q.1.2), (8, .ref (q.2.1 i)), (0, .ref sm), (1, .ref ob), (6, .int (-1)), (7, .int (nI i)), (9, .int (sumI (fun d => opB σ i d) d)), (12, .int (nI d))]) hx hb dX2_isSame_162 hl (by decide) rfl (fun ls hl => ?_)
                    have e6 : (nI i) = amax (fun q => σ 0 q + σ 2 q) (i + 1) := amax_c2 (f := (fun q => σ 0 q + σ 2 q)) hm (by omega) c_157
                    have hl : lv_has ls 14 [(5, .int (amax (fun q => σ 0 q + σ 2 q) (i + 1))), (4, .int (sumI (fun f => if σ 4 f = 0 then (0 : Int32) else 1) (i + 1))), (3, .int (sumI (fun f => isW σ f) (i + 1))), (2, .int (sumI (fun f => σ 2 f) (i + 1))), (11, .int (nI k)), (10, .ref q.1.2), (8, .ref (q.2.1 i)), (0, .ref sm), (1, .ref ob), (6, .int (-1)), (7, .int (nI i)), (9, .int (sumI (fun d => opB σ i d) d)), (12, .int (nI d))] := by rw [← e6]; exact hl
                    refine lv_aload_n hx hb dX2_isSame_164 rfl (lv_at hl 8 rfl) ?_
                    refine lv_iload hx hb dX2_isSame_165 (lv_at hl 10 rfl) ?_
                    refine MX.callV0 (C := RX1) (T := TX1) (N := 2) (As := [.int (nI i)]) (rest := []) (w0 := sC cI cL sm q σ n k) (w2 := []) (wB := fun ρ => (sC cI cL sm q σ n k) ++ ((oC ob h h2) ++ ((mC cI cZ h a σ) ++ (mC cI cZ h2 a2 ρ)))) (c_X1_waterOn l D cI cZ cL ob h a h2 a2 σ ρ hst i (by omega)) ⟨hx, hb, hml, hown, hts⟩ q494 b_X1_waterOn (n := 1) (by decide +kernel) ⟨(Nat.le_of_ble_eq_true rfl), (Nat.le_of_ble_eq_true rfl)⟩ hK hP hD hS hA hE (by rw [List.append_nil]) (fun _ => by rw [List.append_nil]) (ci := 1) rfl rfl rfl hl.1 rfl (Nat.le_of_ble_eq_true rfl) dX2_isSame_167 ⟨by show (2 * i) + 0 ≤ 40; omega, by show (20 * i) + 0 ≤ 400; omega⟩ (fun ρ_91 H locs hP hD hS => ?_)
                    have hP : va_P D vwCl ((sC cI cL sm q σ n k) ++ ((oC ob h h2) ++ ((mC cI cZ h a σ) ++ (mC cI cZ h2 a2 ρ_91)))) H := hP
                    have hD : va_D A ((sC cI cL sm q σ n k) ++ ((oC ob h h2) ++ ((mC cI cZ h a σ) ++ (mC cI cZ h2 a2 ρ_91)))) := hD
                    refine W.wide (k := (2 * i)) (n := (20 * i)) (by show (2 * i) + 0 ≤ (2 * i); omega) (by show (20 * i) + 0 ≤ (20 * i); omega) ?_
                    refine lv_aload hx hb dX2_isSame_170 (lv_at hl 6 rfl) ?_
                    refine lv_iconst (v := 2) hx hb dX2_isSame_172 (by decide) ?_
                    refine s_ldF hx hb hK hP (σ := σ) (n := n) (k := k) (q := q) (sm := sm) (w0 := []) (w2 := (oC ob h h2) ++ ((mC cI cZ h a σ) ++ (mC cI cZ h2 a2 ρ_91))) rfl i (by omega) 2 rfl (by decide) (v := σ 2 i) rfl dX2_isSame_173 ?_
                    refine lv_icmp_ne (tgt := 253) hx hb dX2_isSame_174 (by decide) (fun z => absurd (rfl) z) (fun c_174 => ?_)
                    refine lv_aload_n hx hb dX2_isSame_177 rfl (lv_at hl 8 rfl) ?_
                    refine lv_iload hx hb dX2_isSame_178 (lv_at hl 10 rfl) ?_
                    refine MX.callV0 (C := RX1) (T := TX1) (N := 2) (As := [.int (nI i)]) (rest := []) (w0 := sC cI cL sm q σ n k) (w2 := []) (wB := fun ρ => (sC cI cL sm q σ n k) ++ ((oC ob h h2) ++ ((mC cI cZ h a σ) ++ (mC cI cZ h2 a2 ρ)))) (c_X1_levelOf l D cI cZ cL ob h a h2 a2 σ ρ_91 hst i (by omega)) ⟨hx, hb, hml, hown, hts⟩ q495 b_X1_levelOf (n := 1) (by decide +kernel) ⟨(Nat.le_of_ble_eq_true rfl), (Nat.le_of_ble_eq_true rfl)⟩ hK hP hD hS hA hE (by rw [List.append_nil]) (fun _ => by rw [List.append_nil]) (ci := 1) rfl rfl rfl hl.1 rfl (Nat.le_of_ble_eq_true rfl) dX2_isSame_180 ⟨by show (2 * i) + 0 ≤ 40; omega, by show (20 * i) + 0 ≤ 400; omega⟩ (fun ρ_92 H locs hP hD hS => ?_)
                    have hP : va_P D vwCl ((sC cI cL sm q σ n k) ++ ((oC ob h h2) ++ ((mC cI cZ h a σ) ++ (mC cI cZ h2 a2 ρ_92)))) H := hP
                    have hD : va_D A ((sC cI cL sm q σ n k) ++ ((oC ob h h2) ++ ((mC cI cZ h a σ) ++ (mC cI cZ h2 a2 ρ_92)))) := hD
                    refine W.wide (k := (2 * i)) (n := (20 * i)) (by show (2 * i) + 0 ≤ (2 * i); omega) (by show (20 * i) + 0 ≤ (20 * i); omega) ?_
                    refine lv_aload_n hx hb dX2_isSame_183 rfl (lv_at hl 7 rfl) ?_
                    refine lv_iload hx hb dX2_isSame_184 (lv_at hl 10 rfl) ?_
                    refine MC.callV0 (C := RX2) (T := TX2) (N := 5) (As := [.int (nI i)]) (rest := [.int (σ 0 i + σ 2 i)]) (w0 := []) (w2 := (oC ob h h2) ++ ((mC cI cZ h a σ) ++ (mC cI cZ h2 a2 ρ_92))) (wB := (sC cI cL sm q σ n k) ++ ((oC ob h h2) ++ ((mC cI cZ h a σ) ++ (mC cI cZ h2 a2 ρ_92)))) (c_X2_level l D cI cZ cL sm q σ hst i (by omega)) ⟨hx, hb, hml, hown, hts⟩ q471 b_X2_level (n := 1) (by decide +kernel) ⟨(Nat.le_of_ble_eq_true rfl), (Nat.le_of_ble_eq_true rfl)⟩ hK hP hD hS hA rfl rfl (ci := 2) rfl rfl rfl hl.1 rfl (Nat.le_of_ble_eq_true rfl) dX2_isSame_186 ⟨by show (2 * i) + 0 ≤ 40; omega, by show (20 * i) + 0 ≤ 400; omega⟩ (fun H locs hP hD hS => ?_)
                    refine W.wide (k := (2 * i)) (n := (20 * i)) (by show (2 * i) + 0 ≤ (2 * i); omega) (by show (20 * i) + 0 ≤ (20 * i); omega) ?_
                    refine lv_icmp_ne (tgt := 253) hx hb dX2_isSame_189 (by decide) (fun z => absurd (rfl) z) (fun c_189 => ?_)
                    refine lv_aload_n hx hb dX2_isSame_192 rfl (lv_at hl 8 rfl) ?_
                    refine lv_iload hx hb dX2_isSame_193 (lv_at hl 10 rfl) ?_
                    refine MX.callV0 (C := RX1) (T := TX1) (N := 2) (As := [.int (nI i)]) (rest := []) (w0 := sC cI cL sm q σ n k) (w2 := []) (wB := fun ρ => (sC cI cL sm q σ n k) ++ ((oC ob h h2) ++ ((mC cI cZ h a σ) ++ (mC cI cZ h2 a2 ρ)))) (c_X1_wetFor l D cI cZ cL ob h a h2 a2 σ ρ_92 hst i (by omega)) ⟨hx, hb, hml, hown, hts⟩ q496 b_X1_wetFor (n := 1) (by decide +kernel) ⟨(Nat.le_of_ble_eq_true rfl), (Nat.le_of_ble_eq_true rfl)⟩ hK hP hD hS hA hE (by rw [List.append_nil]) (fun _ => by rw [List.append_nil]) (ci := 1) rfl rfl rfl hl.1 rfl (Nat.le_of_ble_eq_true rfl) dX2_isSame_195 ⟨by show (2 * i) + 0 ≤ 40; omega, by show (20 * i) + 0 ≤ 400; omega⟩ (fun ρ_93 H locs hP hD hS => ?_)
                    have hP : va_P D vwCl ((sC cI cL sm q σ n k) ++ ((oC ob h h2) ++ ((mC cI cZ h a σ) ++ (mC cI cZ h2 a2 ρ_93)))) H := hP
                    have hD : va_D A ((sC cI cL sm q σ n k) ++ ((oC ob h h2) ++ ((mC cI cZ h a σ) ++ (mC cI cZ h2 a2 ρ_93)))) := hD
                    refine W.wide (k := (2 * i)) (n := (20 * i)) (by show (2 * i) + 0 ≤ (2 * i); omega) (by show (20 * i) + 0 ≤ (20 * i); omega) ?_
                    refine lv_aload hx hb dX2_isSame_198 (lv_at hl 6 rfl) ?_
                    refine lv_iconst (v := 3) hx hb dX2_isSame_200 (by decide) ?_
                    refine s_ldF hx hb hK hP (σ := σ) (n := n) (k := k) (q := q) (sm := sm) (w0 := []) (w2 := (oC ob h h2) ++ ((mC cI cZ h a σ) ++ (mC cI cZ h2 a2 ρ_93))) rfl i (by omega) 3 rfl (by decide) (v := σ 3 i) rfl dX2_isSame_201 ?_
                    refine lv_icmp_ne (tgt := 253) hx hb dX2_isSame_202 (by decide) (fun z => absurd (rfl) z) (fun c_202 => ?_)
                    refine lv_aload_n hx hb dX2_isSame_205 rfl (lv_at hl 8 rfl) ?_
                    refine lv_iload hx hb dX2_isSame_206 (lv_at hl 10 rfl) ?_
                    refine MX.callV0 (C := RX1) (T := TX1) (N := 2) (As := [.int (nI i)]) (rest := []) (w0 := sC cI cL sm q σ n k) (w2 := []) (wB := fun ρ => (sC cI cL sm q σ n k) ++ ((oC ob h h2) ++ ((mC cI cZ h a σ) ++ (mC cI cZ h2 a2 ρ)))) (c_X1_isRuined l D cI cZ cL ob h a h2 a2 σ ρ_93 hst hB i (by omega)) ⟨hx, hb, hml, hown, hts⟩ q497 b_X1_isRuined (n := 1) (by decide +kernel) ⟨(Nat.le_of_ble_eq_true rfl), (Nat.le_of_ble_eq_true rfl)⟩ hK hP hD hS hA hE (by rw [List.append_nil]) (fun _ => by rw [List.append_nil]) (ci := 1) rfl rfl rfl hl.1 rfl (Nat.le_of_ble_eq_true rfl) dX2_isSame_208 ⟨by show (2 * i) + 0 ≤ 40; omega, by show (20 * i) + 0 ≤ 400; omega⟩ (fun ρ_94 H locs hP hD hS => ?_)
                    have hP : va_P D vwCl ((sC cI cL sm q σ n k) ++ ((oC ob h h2) ++ ((mC cI cZ h a σ) ++ (mC cI cZ h2 a2 ρ_94)))) H := hP
                    have hD : va_D A ((sC cI cL sm q σ n k) ++ ((oC ob h h2) ++ ((mC cI cZ h a σ) ++ (mC cI cZ h2 a2 ρ_94)))) := hD
                    refine W.wide (k := (2 * i)) (n := (20 * i)) (by show (2 * i) + 0 ≤ (2 * i); omega) (by show (20 * i) + 0 ≤ (20 * i); omega) ?_
                    refine lv_aload hx hb dX2_isSame_211 (lv_at hl 6 rfl) ?_
                    refine lv_iconst (v := 4) hx hb dX2_isSame_213 (by decide) ?_
                    refine s_ldF hx hb hK hP (σ := σ) (n := n) (k := k) (q := q) (sm := sm) (w0 := []) (w2 := (oC ob h h2) ++ ((mC cI cZ h a σ) ++ (mC cI cZ h2 a2 ρ_94))) rfl i (by omega) 4 rfl (by decide) (v := σ 4 i) rfl dX2_isSame_214 ?_
                    refine lv_iconst (v := 1) hx hb dX2_isSame_215 (by decide) ?_
                    refine lv_icmp_ne (tgt := 223) hx hb dX2_isSame_216 (by decide) (fun c_216 => ?_) (fun c_216 => ?_)
                    · refine lv_iconst (v := 0) hx hb dX2_isSame_223 (by decide) ?_
                      refine lv_icmp_ne (tgt := 253) hx hb dX2_isSame_224 (by decide) (fun z => absurd (b01_0 (hB.2.2.2.2.1 i (by omega)) c_216) z) (fun c_224 => ?_)
                      refine lv_aload_n hx hb dX2_isSame_227 rfl (lv_at hl 8 rfl) ?_
                      refine lv_iload hx hb dX2_isSame_228 (lv_at hl 10 rfl) ?_
                      refine MX.callV0 (C := RX1) (T := TX1) (N := 2) (As := [.int (nI i)]) (rest := []) (w0 := sC cI cL sm q σ n k) (w2 := []) (wB := fun ρ => (sC cI cL sm q σ n k) ++ ((oC ob h h2) ++ ((mC cI cZ h a σ) ++ (mC cI cZ h2 a2 ρ)))) (c_X1_drainsAt l D cI cZ cL ob h a h2 a2 σ ρ_94 hst i (by omega)) ⟨hx, hb, hml, hown, hts⟩ q498 b_X1_drainsAt (n := 1) (by decide +kernel) ⟨(Nat.le_of_ble_eq_true rfl), (Nat.le_of_ble_eq_true rfl)⟩ hK hP hD hS hA hE (by rw [List.append_nil]) (fun _ => by rw [List.append_nil]) (ci := 1) rfl rfl rfl hl.1 rfl (Nat.le_of_ble_eq_true rfl) dX2_isSame_230 ⟨by show (2 * i) + 0 ≤ 40; omega, by show (20 * i) + 0 ≤ 400; omega⟩ (fun ρ_95 H locs hP hD hS => ?_)
                      have hP : va_P D vwCl ((sC cI cL sm q σ n k) ++ ((oC ob h h2) ++ ((mC cI cZ h a σ) ++ (mC cI cZ h2 a2 ρ_95)))) H := hP
                      have hD : va_D A ((sC cI cL sm q σ n k) ++ ((oC ob h h2) ++ ((mC cI cZ h a σ) ++ (mC cI cZ h2 a2 ρ_95)))) := hD
                      refine W.wide (k := (2 * i)) (n := (20 * i)) (by show (2 * i) + 0 ≤ (2 * i); omega) (by show (20 * i) + 0 ≤ (20 * i); omega) ?_
                      refine lv_iload hx hb dX2_isSame_233 (lv_at hl 11 rfl) ?_
                      refine lv_icmp_ne (tgt := 253) hx hb dX2_isSame_235 (by decide) (fun z => absurd (by unfold openS; rw [hst.eD, show k = d by omega]) z) (fun c_235 => ?_)
                      refine lv_aload_n hx hb dX2_isSame_238 rfl (lv_at hl 8 rfl) ?_
                      refine lv_iload hx hb dX2_isSame_239 (lv_at hl 10 rfl) ?_
                      refine MX.callV0 (C := RX1) (T := TX1) (N := 2) (As := [.int (nI i)]) (rest := []) (w0 := sC cI cL sm q σ n k) (w2 := []) (wB := fun ρ => (sC cI cL sm q σ n k) ++ ((oC ob h h2) ++ ((mC cI cZ h a σ) ++ (mC cI cZ h2 a2 ρ)))) (c_X1_reaches l D cI cZ cL ob h a h2 a2 σ ρ_95 hst i (by omega)) ⟨hx, hb, hml, hown, hts⟩ q499 b_X1_reaches (n := 1) (by decide +kernel) ⟨(Nat.le_of_ble_eq_true rfl), (Nat.le_of_ble_eq_true rfl)⟩ hK hP hD hS hA hE (by rw [List.append_nil]) (fun _ => by rw [List.append_nil]) (ci := 1) rfl rfl rfl hl.1 rfl (Nat.le_of_ble_eq_true rfl) dX2_isSame_241 ⟨by show (2 * i) + 0 ≤ 40; omega, by show (20 * i) + 0 ≤ 400; omega⟩ (fun ρ_96 H locs hP hD hS => ?_)
                      have hP : va_P D vwCl ((sC cI cL sm q σ n k) ++ ((oC ob h h2) ++ ((mC cI cZ h a σ) ++ (mC cI cZ h2 a2 ρ_96)))) H := hP
                      have hD : va_D A ((sC cI cL sm q σ n k) ++ ((oC ob h h2) ++ ((mC cI cZ h a σ) ++ (mC cI cZ h2 a2 ρ_96)))) := hD
                      refine W.wide (k := (2 * i)) (n := (20 * i)) (by show (2 * i) + 0 ≤ (2 * i); omega) (by show (20 * i) + 0 ≤ (20 * i); omega) ?_
                      refine lv_aload_n hx hb dX2_isSame_244 rfl (lv_at hl 7 rfl) ?_
                      refine lv_iload hx hb dX2_isSame_245 (lv_at hl 10 rfl) ?_
                      refine MY.callV0 (C := RX2) (T := TX2) (N := 5) (As := [.int (nI i)]) (rest := [.int (reachS σ i)]) (w0 := []) (w2 := (oC ob h h2) ++ ((mC cI cZ h a σ) ++ (mC cI cZ h2 a2 ρ_96))) (wB := fun y => (sC cI cL sm q σ n k) ++ ((oC ob h h2) ++ ((mC cI cZ h a σ) ++ (mC cI cZ h2 a2 ρ_96)))) (c_X2_reaches l D cI cZ cL sm q σ hst i (by omega)) ⟨hx, hb, hml, hown, hts⟩ q500 b_X2_reaches (n := 1) (by decide +kernel) ⟨(Nat.le_of_ble_eq_true rfl), (Nat.le_of_ble_eq_true rfl)⟩ hK hP hD hS hA (EY.non hE) (by simp only [List.append_assoc, List.append_nil, List.nil_append]) (fun _ => by simp only [List.append_assoc, List.append_nil, List.nil_append]) (ci := 2) rfl rfl rfl hl.1 rfl (Nat.le_of_ble_eq_true rfl) dX2_isSame_247 ⟨by show (2 * i) + 1 ≤ 40; omega, by show (20 * i) + 10 ≤ 400; omega⟩ (fun y H locs hP hD hS => ?_)
                      have hP : va_P D vwCl ((sC cI cL sm q σ n k) ++ ((oC ob h h2) ++ ((mC cI cZ h a σ) ++ (mC cI cZ h2 a2 ρ_96)))) H := hP
                      have hD : va_D A ((sC cI cL sm q σ n k) ++ ((oC ob h h2) ++ ((mC cI cZ h a σ) ++ (mC cI cZ h2 a2 ρ_96)))) := hD
                      refine W.wide (k := ((2 * i) + 1)) (n := ((20 * i) + 10)) (by show (2 * i) + 1 ≤ ((2 * i) + 1); omega) (by show (20 * i) + 10 ≤ ((20 * i) + 10); omega) ?_
                      refine lv_icmp_eq (tgt := 255) hx hb dX2_isSame_250 (by decide) (fun c_250 => ?_) (fun z => absurd (rfl) z)
                      refine lv_iinc (v := (nI (i + 1))) (lv' := [(7, .int (nI (i + 1))), (5, .int (amax (fun q => σ 0 q + σ 2 q) (i + 1))), (4, .int (sumI (fun f => if σ 4 f = 0 then (0 : Int32) else 1) (i + 1))), (3, .int (sumI (fun f => isW σ f) (i + 1))), (2, .int (sumI (fun f => σ 2 f) (i + 1))), (11, .int (nI k)), (10, .ref q.1.2), (8, .ref (q.2.1 i)), (0, .ref sm), (1, .ref ob), (6, .int (-1)), (9, .int (sumI (fun d => opB σ i d) d)), (12, .int (nI d))]) hx hb dX2_isSame_255 hl (k := 10) rfl (nI_add i 1) (by decide) rfl (fun ls hl => ?_)
                      refine lv_goto (tgt := 16) hx hb dX2_isSame_258 (by decide) ?_
                      refine W.wide (k := 2 * (i + 1)) (n := 20 * (i + 1)) (by first | omega | exact Nat.le_of_ble_eq_true rfl) (by first | omega | exact Nat.le_of_ble_eq_true rfl) ?_
                      exact ih_16 (i + 1) ρ_96 (by omega) (by omega) _ _ _ hP hD hS (lv_sub hl [8, 9, 4, 3, 2, 1, 10, 0] rfl)
                    · refine lv_iconst (v := 1) hx hb dX2_isSame_219 (by decide) ?_
                      refine lv_goto (tgt := 224) hx hb dX2_isSame_220 (by decide) ?_
                      refine lv_icmp_ne (tgt := 253) hx hb dX2_isSame_224 (by decide) (fun z => absurd (c_216) z) (fun c_224 => ?_)
                      refine lv_aload_n hx hb dX2_isSame_227 rfl (lv_at hl 8 rfl) ?_
                      refine lv_iload hx hb dX2_isSame_228 (lv_at hl 10 rfl) ?_
                      refine MX.callV0 (C := RX1) (T := TX1) (N := 2) (As := [.int (nI i)]) (rest := []) (w0 := sC cI cL sm q σ n k) (w2 := []) (wB := fun ρ => (sC cI cL sm q σ n k) ++ ((oC ob h h2) ++ ((mC cI cZ h a σ) ++ (mC cI cZ h2 a2 ρ)))) (c_X1_drainsAt l D cI cZ cL ob h a h2 a2 σ ρ_94 hst i (by omega)) ⟨hx, hb, hml, hown, hts⟩ q498 b_X1_drainsAt (n := 1) (by decide +kernel) ⟨(Nat.le_of_ble_eq_true rfl), (Nat.le_of_ble_eq_true rfl)⟩ hK hP hD hS hA hE (by rw [List.append_nil]) (fun _ => by rw [List.append_nil]) (ci := 1) rfl rfl rfl hl.1 rfl (Nat.le_of_ble_eq_true rfl) dX2_isSame_230 ⟨by show (2 * i) + 0 ≤ 40; omega, by show (20 * i) + 0 ≤ 400; omega⟩ (fun ρ_97 H locs hP hD hS => ?_)
                      have hP : va_P D vwCl ((sC cI cL sm q σ n k) ++ ((oC ob h h2) ++ ((mC cI cZ h a σ) ++ (mC cI cZ h2 a2 ρ_97)))) H := hP
                      have hD : va_D A ((sC cI cL sm q σ n k) ++ ((oC ob h h2) ++ ((mC cI cZ h a σ) ++ (mC cI cZ h2 a2 ρ_97)))) := hD
                      refine W.wide (k := (2 * i)) (n := (20 * i)) (by show (2 * i) + 0 ≤ (2 * i); omega) (by show (20 * i) + 0 ≤ (20 * i); omega) ?_
                      refine lv_iload hx hb dX2_isSame_233 (lv_at hl 11 rfl) ?_
                      refine lv_icmp_ne (tgt := 253) hx hb dX2_isSame_235 (by decide) (fun z => absurd (by unfold openS; rw [hst.eD, show k = d by omega]) z) (fun c_235 => ?_)
                      refine lv_aload_n hx hb dX2_isSame_238 rfl (lv_at hl 8 rfl) ?_
                      refine lv_iload hx hb dX2_isSame_239 (lv_at hl 10 rfl) ?_
                      refine MX.callV0 (C := RX1) (T := TX1) (N := 2) (As := [.int (nI i)]) (rest := []) (w0 := sC cI cL sm q σ n k) (w2 := []) (wB := fun ρ => (sC cI cL sm q σ n k) ++ ((oC ob h h2) ++ ((mC cI cZ h a σ) ++ (mC cI cZ h2 a2 ρ)))) (c_X1_reaches l D cI cZ cL ob h a h2 a2 σ ρ_97 hst i (by omega)) ⟨hx, hb, hml, hown, hts⟩ q499 b_X1_reaches (n := 1) (by decide +kernel) ⟨(Nat.le_of_ble_eq_true rfl), (Nat.le_of_ble_eq_true rfl)⟩ hK hP hD hS hA hE (by rw [List.append_nil]) (fun _ => by rw [List.append_nil]) (ci := 1) rfl rfl rfl hl.1 rfl (Nat.le_of_ble_eq_true rfl) dX2_isSame_241 ⟨by show (2 * i) + 0 ≤ 40; omega, by show (20 * i) + 0 ≤ 400; omega⟩ (fun ρ_98 H locs hP hD hS => ?_)
                      have hP : va_P D vwCl ((sC cI cL sm q σ n k) ++ ((oC ob h h2) ++ ((mC cI cZ h a σ) ++ (mC cI cZ h2 a2 ρ_98)))) H := hP
                      have hD : va_D A ((sC cI cL sm q σ n k) ++ ((oC ob h h2) ++ ((mC cI cZ h a σ) ++ (mC cI cZ h2 a2 ρ_98)))) := hD
                      refine W.wide (k := (2 * i)) (n := (20 * i)) (by show (2 * i) + 0 ≤ (2 * i); omega) (by show (20 * i) + 0 ≤ (20 * i); omega) ?_
                      refine lv_aload_n hx hb dX2_isSame_244 rfl (lv_at hl 7 rfl) ?_
                      refine lv_iload hx hb dX2_isSame_245 (lv_at hl 10 rfl) ?_
                      refine MY.callV0 (C := RX2) (T := TX2) (N := 5) (As := [.int (nI i)]) (rest := [.int (reachS σ i)]) (w0 := []) (w2 := (oC ob h h2) ++ ((mC cI cZ h a σ) ++ (mC cI cZ h2 a2 ρ_98))) (wB := fun y => (sC cI cL sm q σ n k) ++ ((oC ob h h2) ++ ((mC cI cZ h a σ) ++ (mC cI cZ h2 a2 ρ_98)))) (c_X2_reaches l D cI cZ cL sm q σ hst i (by omega)) ⟨hx, hb, hml, hown, hts⟩ q500 b_X2_reaches (n := 1) (by decide +kernel) ⟨(Nat.le_of_ble_eq_true rfl), (Nat.le_of_ble_eq_true rfl)⟩ hK hP hD hS hA (EY.non hE) (by simp only [List.append_assoc, List.append_nil, List.nil_append]) (fun _ => by simp only [List.append_assoc, List.append_nil, List.nil_append]) (ci := 2) rfl rfl rfl hl.1 rfl (Nat.le_of_ble_eq_true rfl) dX2_isSame_247 ⟨by show (2 * i) + 1 ≤ 40; omega, by show (20 * i) + 10 ≤ 400; omega⟩ (fun y H locs hP hD hS => ?_)
                      have hP : va_P D vwCl ((sC cI cL sm q σ n k) ++ ((oC ob h h2) ++ ((mC cI cZ h a σ) ++ (mC cI cZ h2 a2 ρ_98)))) H := hP
                      have hD : va_D A ((sC cI cL sm q σ n k) ++ ((oC ob h h2) ++ ((mC cI cZ h a σ) ++ (mC cI cZ h2 a2 ρ_98)))) := hD
                      refine W.wide (k := ((2 * i) + 1)) (n := ((20 * i) + 10)) (by show (2 * i) + 1 ≤ ((2 * i) + 1); omega) (by show (20 * i) + 10 ≤ ((20 * i) + 10); omega) ?_
                      refine lv_icmp_eq (tgt := 255) hx hb dX2_isSame_250 (by decide) (fun c_250 => ?_) (fun z => absurd (rfl) z)
                      refine lv_iinc (v := (nI (i + 1))) (lv' := [(7, .int (nI (i + 1))), (5, .int (amax (fun q => σ 0 q + σ 2 q) (i + 1))), (4, .int (sumI (fun f => if σ 4 f = 0 then (0 : Int32) else 1) (i + 1))), (3, .int (sumI (fun f => isW σ f) (i + 1))), (2, .int (sumI (fun f => σ 2 f) (i + 1))), (11, .int (nI k)), (10, .ref q.1.2), (8, .ref (q.2.1 i)), (0, .ref sm), (1, .ref ob), (6, .int (-1)), (9, .int (sumI (fun d => opB σ i d) d)), (12, .int (nI d))]) hx hb dX2_isSame_255 hl (k := 10) rfl (nI_add i 1) (by decide) rfl (fun ls hl => ?_)
                      refine lv_goto (tgt := 16) hx hb dX2_isSame_258 (by decide) ?_
                      refine W.wide (k := 2 * (i + 1)) (n := 20 * (i + 1)) (by first | omega | exact Nat.le_of_ble_eq_true rfl) (by first | omega | exact Nat.le_of_ble_eq_true rfl) ?_
                      exact ih_16 (i + 1) ρ_98 (by omega) (by omega) _ _ _ hP hD hS (lv_sub hl [8, 9, 4, 3, 2, 1, 10, 0] rfl)
            · have hc_56 : d < k := Nat.not_le.mp (fun z => c_56 ((nI_leI (a := k) (b := d) (by omega) (by omega)).mpr z))
              refine lv_aload hx hb dX2_isSame_59 (lv_at hl 1 rfl) ?_
              refine lv_iload hx hb dX2_isSame_61 (lv_at hl 12 rfl) ?_
              refine s_alD hx hb hK hP (σ := σ) (n := n) (k := k) (q := q) (sm := sm) (w0 := []) (w2 := (oC ob h h2) ++ ((mC cI cZ h a σ) ++ (mC cI cZ h2 a2 ρ))) rfl d (rfl) (by omega) (by omega) dX2_isSame_63 ?_
              refine lv_astore (lv' := [(13, .ref (q.2.2 d)), (11, .int (nI k)), (10, .ref q.1.2), (8, .ref (q.2.1 i)), (0, .ref sm), (1, .ref ob), (2, .int (sumI (fun f => σ 2 f) i)), (3, .int (sumI (fun f => isW σ f) i)), (4, .int (sumI (fun f => if σ 4 f = 0 then (0 : Int32) else 1) i)), (5, .int (amax (fun q => σ 0 q + σ 2 q) i)), (6, .int (-1)), (7, .int (nI i)), (9, .int (sumI (fun d => opB σ i d) d)), (12, .int (nI d))]) hx hb dX2_isSame_64 hl (by decide) rfl (fun ls hl => ?_)
              refine lv_iload hx hb dX2_isSame_66 (lv_at hl 12 rfl) ?_
              refine lv_aload hx hb dX2_isSame_68 (lv_at hl 0 rfl) ?_
              refine lv_iconst (v := 4) hx hb dX2_isSame_70 (by decide) ?_
              refine s_ldD hx hb hK hP (σ := σ) (n := n) (k := k) (q := q) (sm := sm) (w0 := []) (w2 := (oC ob h h2) ++ ((mC cI cZ h a σ) ++ (mC cI cZ h2 a2 ρ))) rfl d (by omega) 4 rfl (by decide) (v := σ 10 d) rfl dX2_isSame_71 ?_
              refine lv_iconst (v := 1) hx hb dX2_isSame_72 (by decide) ?_
              refine lv_icmp_ne (tgt := 98) hx hb dX2_isSame_73 (by decide) (fun c_73 => ?_) (fun c_73 => ?_)
              · refine lv_iconst (v := 0) hx hb dX2_isSame_98 (by decide) ?_
                refine lv_iadd hx hb dX2_isSame_99 ?_
                refine lv_topi (fun v_99 ev_99 => ?_)
                refine lv_istore (lv' := [(9, .int v_99), (13, .ref (q.2.2 d)), (11, .int (nI k)), (10, .ref q.1.2), (8, .ref (q.2.1 i)), (0, .ref sm), (1, .ref ob), (2, .int (sumI (fun f => σ 2 f) i)), (3, .int (sumI (fun f => isW σ f) i)), (4, .int (sumI (fun f => if σ 4 f = 0 then (0 : Int32) else 1) i)), (5, .int (amax (fun q => σ 0 q + σ 2 q) i)), (6, .int (-1)), (7, .int (nI i)), (12, .int (nI d))]) hx hb dX2_isSame_100 hl (by decide) rfl (fun ls hl => ?_)
                refine lv_iinc (v := (nI (d + 1))) (lv' := [(12, .int (nI (d + 1))), (9, .int v_99), (13, .ref (q.2.2 d)), (11, .int (nI k)), (10, .ref q.1.2), (8, .ref (q.2.1 i)), (0, .ref sm), (1, .ref ob), (2, .int (sumI (fun f => σ 2 f) i)), (3, .int (sumI (fun f => isW σ f) i)), (4, .int (sumI (fun f => if σ 4 f = 0 then (0 : Int32) else 1) i)), (5, .int (amax (fun q => σ 0 q + σ 2 q) i)), (6, .int (-1)), (7, .int (nI i))]) hx hb dX2_isSame_102 hl (k := 13) rfl (nI_add d 1) (by decide) rfl (fun ls hl => ?_)
                refine lv_goto (tgt := 52) hx hb dX2_isSame_105 (by decide) ?_
                have e8 : v_99 = sumI (fun d => opB σ i d) (d + 1) := by
                  rw [ev_99]
                  exact sum_1 (g := (fun d => opB σ i d)) (opB_0 (b01_0 (hB.2.2.2.2.2.2 d (by omega)) c_73))
                rw [e8] at hl
                exact ih_52 (d + 1) (by omega) (by omega) _ _ _ hP hD hS (lv_sub hl [3, 4, 5, 6, 7, 8, 9, 10, 11, 12, 13, 1, 0] rfl)
              · refine lv_aload hx hb dX2_isSame_76 (lv_at hl 0 rfl) ?_
                refine lv_iconst (v := 0) hx hb dX2_isSame_78 (by decide) ?_
                refine s_ldD hx hb hK hP (σ := σ) (n := n) (k := k) (q := q) (sm := sm) (w0 := []) (w2 := (oC ob h h2) ++ ((mC cI cZ h a σ) ++ (mC cI cZ h2 a2 ρ))) rfl d (by omega) 0 rfl (by decide) (v := σ 5 d) rfl dX2_isSame_79 ?_
                refine lv_iload hx hb dX2_isSame_80 (lv_at hl 11 rfl) ?_
                refine lv_icmp_eq (tgt := 94) hx hb dX2_isSame_82 (by decide) (fun c_82 => ?_) (fun c_82 => ?_)
                · refine lv_iconst (v := 1) hx hb dX2_isSame_94 (by decide) ?_
                  refine lv_goto (tgt := 99) hx hb dX2_isSame_95 (by decide) ?_
                  refine lv_iadd hx hb dX2_isSame_99 ?_
                  refine lv_topi (fun v_100 ev_100 => ?_)
                  refine lv_istore (lv' := [(9, .int v_100), (13, .ref (q.2.2 d)), (11, .int (nI k)), (10, .ref q.1.2), (8, .ref (q.2.1 i)), (0, .ref sm), (1, .ref ob), (2, .int (sumI (fun f => σ 2 f) i)), (3, .int (sumI (fun f => isW σ f) i)), (4, .int (sumI (fun f => if σ 4 f = 0 then (0 : Int32) else 1) i)), (5, .int (amax (fun q => σ 0 q + σ 2 q) i)), (6, .int (-1)), (7, .int (nI i)), (12, .int (nI d))]) hx hb dX2_isSame_100 hl (by decide) rfl (fun ls hl => ?_)
                  refine lv_iinc (v := (nI (d + 1))) (lv' := [(12, .int (nI (d + 1))), (9, .int v_100), (13, .ref (q.2.2 d)), (11, .int (nI k)), (10, .ref q.1.2), (8, .ref (q.2.1 i)), (0, .ref sm), (1, .ref ob), (2, .int (sumI (fun f => σ 2 f) i)), (3, .int (sumI (fun f => isW σ f) i)), (4, .int (sumI (fun f => if σ 4 f = 0 then (0 : Int32) else 1) i)), (5, .int (amax (fun q => σ 0 q + σ 2 q) i)), (6, .int (-1)), (7, .int (nI i))]) hx hb dX2_isSame_102 hl (k := 13) rfl (nI_add d 1) (by decide) rfl (fun ls hl => ?_)
                  refine lv_goto (tgt := 52) hx hb dX2_isSame_105 (by decide) ?_
                  have e8 : v_100 = sumI (fun d => opB σ i d) (d + 1) := by
                    rw [ev_100]
                    exact sum_1 (g := (fun d => opB σ i d)) (opB_1 (b01_n c_73) c_82)
                  rw [e8] at hl
                  exact ih_52 (d + 1) (by omega) (by omega) _ _ _ hP hD hS (lv_sub hl [3, 4, 5, 6, 7, 8, 9, 10, 11, 12, 13, 1, 0] rfl)
                · refine lv_aload hx hb dX2_isSame_85 (lv_at hl 0 rfl) ?_
                  refine lv_iconst (v := 1) hx hb dX2_isSame_87 (by decide) ?_
                  refine s_ldD hx hb hK hP (σ := σ) (n := n) (k := k) (q := q) (sm := sm) (w0 := []) (w2 := (oC ob h h2) ++ ((mC cI cZ h a σ) ++ (mC cI cZ h2 a2 ρ))) rfl d (by omega) 1 rfl (by decide) (v := σ 6 d) rfl dX2_isSame_88 ?_
                  refine lv_iload hx hb dX2_isSame_89 (lv_at hl 11 rfl) ?_
                  refine lv_icmp_ne (tgt := 98) hx hb dX2_isSame_91 (by decide) (fun c_91 => ?_) (fun c_91 => ?_)
                  · refine lv_iconst (v := 0) hx hb dX2_isSame_98 (by decide) ?_
                    refine lv_iadd hx hb dX2_isSame_99 ?_
                    refine lv_topi (fun v_101 ev_101 => ?_)
                    refine lv_istore (lv' := [(9, .int v_101), (13, .ref (q.2.2 d)), (11, .int (nI k)), (10, .ref q.1.2), (8, .ref (q.2.1 i)), (0, .ref sm), (1, .ref ob), (2, .int (sumI (fun f => σ 2 f) i)), (3, .int (sumI (fun f => isW σ f) i)), (4, .int (sumI (fun f => if σ 4 f = 0 then (0 : Int32) else 1) i)), (5, .int (amax (fun q => σ 0 q + σ 2 q) i)), (6, .int (-1)), (7, .int (nI i)), (12, .int (nI d))]) hx hb dX2_isSame_100 hl (by decide) rfl (fun ls hl => ?_)
                    refine lv_iinc (v := (nI (d + 1))) (lv' := [(12, .int (nI (d + 1))), (9, .int v_101), (13, .ref (q.2.2 d)), (11, .int (nI k)), (10, .ref q.1.2), (8, .ref (q.2.1 i)), (0, .ref sm), (1, .ref ob), (2, .int (sumI (fun f => σ 2 f) i)), (3, .int (sumI (fun f => isW σ f) i)), (4, .int (sumI (fun f => if σ 4 f = 0 then (0 : Int32) else 1) i)), (5, .int (amax (fun q => σ 0 q + σ 2 q) i)), (6, .int (-1)), (7, .int (nI i))]) hx hb dX2_isSame_102 hl (k := 13) rfl (nI_add d 1) (by decide) rfl (fun ls hl => ?_)
                    refine lv_goto (tgt := 52) hx hb dX2_isSame_105 (by decide) ?_
                    have e8 : v_101 = sumI (fun d => opB σ i d) (d + 1) := by
                      rw [ev_101]
                      exact sum_1 (g := (fun d => opB σ i d)) (opB_3 (b01_n c_73) c_82 c_91)
                    rw [e8] at hl
                    exact ih_52 (d + 1) (by omega) (by omega) _ _ _ hP hD hS (lv_sub hl [3, 4, 5, 6, 7, 8, 9, 10, 11, 12, 13, 1, 0] rfl)
                  · refine lv_iconst (v := 1) hx hb dX2_isSame_94 (by decide) ?_
                    refine lv_goto (tgt := 99) hx hb dX2_isSame_95 (by decide) ?_
                    refine lv_iadd hx hb dX2_isSame_99 ?_
                    refine lv_topi (fun v_102 ev_102 => ?_)
                    refine lv_istore (lv' := [(9, .int v_102), (13, .ref (q.2.2 d)), (11, .int (nI k)), (10, .ref q.1.2), (8, .ref (q.2.1 i)), (0, .ref sm), (1, .ref ob), (2, .int (sumI (fun f => σ 2 f) i)), (3, .int (sumI (fun f => isW σ f) i)), (4, .int (sumI (fun f => if σ 4 f = 0 then (0 : Int32) else 1) i)), (5, .int (amax (fun q => σ 0 q + σ 2 q) i)), (6, .int (-1)), (7, .int (nI i)), (12, .int (nI d))]) hx hb dX2_isSame_100 hl (by decide) rfl (fun ls hl => ?_)
                    refine lv_iinc (v := (nI (d + 1))) (lv' := [(12, .int (nI (d + 1))), (9, .int v_102), (13, .ref (q.2.2 d)), (11, .int (nI k)), (10, .ref q.1.2), (8, .ref (q.2.1 i)), (0, .ref sm), (1, .ref ob), (2, .int (sumI (fun f => σ 2 f) i)), (3, .int (sumI (fun f => isW σ f) i)), (4, .int (sumI (fun f => if σ 4 f = 0 then (0 : Int32) else 1) i)), (5, .int (amax (fun q => σ 0 q + σ 2 q) i)), (6, .int (-1)), (7, .int (nI i))]) hx hb dX2_isSame_102 hl (k := 13) rfl (nI_add d 1) (by decide) rfl (fun ls hl => ?_)
                    refine lv_goto (tgt := 52) hx hb dX2_isSame_105 (by decide) ?_
                    have e8 : v_102 = sumI (fun d => opB σ i d) (d + 1) := by
                      rw [ev_102]
                      exact sum_1 (g := (fun d => opB σ i d)) (opB_2 (b01_n c_73) c_82 c_91)
                    rw [e8] at hl
                    exact ih_52 (d + 1) (by omega) (by omega) _ _ _ hP hD hS (lv_sub hl [3, 4, 5, 6, 7, 8, 9, 10, 11, 12, 13, 1, 0] rfl)
        exact L52 (k + 1) 0 (by omega) (by omega) _ _ _ hP hD hS (lv_sub hl [1, 2, 4, 5, 6, 7, 8, 9, 10, 11, 12, 3, 0] rfl)
  exact L16 (n + 1) 0 τ (by omega) (by omega) _ _ _ hP hD hS (lv_sub hl [0, 1, 2, 3, 4, 5, 6, 7] rfl)
