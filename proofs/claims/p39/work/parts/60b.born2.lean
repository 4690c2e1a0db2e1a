theorem b_X1_init : Cond.instanceMethod yX1_init ∈ LW ∧ Cond.initialized yX1_init.cls ∈ LW ∧ Cond.code yX1_init cX1_init 1 none ∈ LW := ⟨q23, q9, q24⟩
abbrev rmX1_init : Room := { frames := 2, cells := 24, slots := 324, locals := 100 }
abbrev I4 : Type := (Nat × Nat) × ((Nat → Nat) × (Nat → Nat))
set_option maxHeartbeats 4000000 in
set_option maxRecDepth 100000 in
theorem c_X1_init (l : Launch) (D : va_G) (cI cZ cL : ClassId) (ob : Nat) : MY (ι := I4) none l yX1_init cX1_init 1 none rmX1_init D (tZ cI cZ cL) [.ref ob] [(ob, .inr (1, [.null, .null]))] (fun x => oC ob x.1.1 x.1.2 ++ (mC cI cZ x.1.1 x.2.1 S0 ++ mC cI cZ x.1.2 x.2.2 S0)) (fun _ => none) := by
  refine MY.of (by decide) (Nat.le_of_ble_eq_true rfl) ?_
  intro p e s m args below meth c A ls Q hx hb hml hr hts hown hlocks hA hP hD hK hS hl hQ hE9 hin
  have hE : EX A s s.heap := hE9.1
  have hown : s.vm.findClass RX1 = some m.cls := hown
  have hl : lv_has ls 1 [(0, .ref ob)] := hl
  refine lv_aload_n hx hb dX1_init_0 rfl (lv_at hl 0 rfl) ?_
  refine W.objInit hx hb hown (hts _ q25) (hts _ q26) (hts _ q27) rfl (by rw [hml]; exact hl.1) rfl dX1_init_1 (Nat.le_of_ble_eq_true rfl) (Nat.le_of_ble_eq_true rfl) ?_
  refine W.eq (g2 := F0 m 4 ls []) rfl ?_
  refine lv_aload_n hx hb dX1_init_4 rfl (lv_at hl 0 rfl) ?_
  refine va_new (ci := 0) (C := RX0) (T := TX0) (N := 16) (fs := fs0) hx hb hts in_wsX00 tyX0 tyX0_ok hown (hts _ q28) (hts _ q29) (hts _ q10) hK hP hD hS hA rfl (by decide) (Nat.le_of_ble_eq_true rfl) (Nat.le_of_ble_eq_true rfl) dX1_init_5 (fun h H hP hD hS => ?_)
  refine lv_dup hx hb dX1_init_8 rfl ?_
  refine MY.callIN (b := h) (As := []) (rest := [.ref h, .ref ob]) (w0 := [(ob, .inr (1, [.null, .null]))]) (w2 := []) (wB := fun x => [(ob, .inr (1, [.null, .null]))] ++ (mC cI cZ h x S0 ++ [])) (c_X0_init l D cI cZ cL h) ⟨hx, hb, hml, hown, hts⟩ (hE.w 13 rfl) b_X0_init rfl (n := 0) (by decide +kernel) ⟨(Nat.le_of_ble_eq_true rfl), (Nat.le_of_ble_eq_true rfl)⟩ hK hP hD hS hA (EY.non hE) rfl (fun _ => rfl) rfl hl.1 rfl (Nat.le_of_ble_eq_true rfl) dX1_init_9 ⟨(Nat.le_of_ble_eq_true rfl), (Nat.le_of_ble_eq_true rfl)⟩ (fun a H locs hP hD hS => ?_)
  have hP : va_P D vwCl ([(ob, .inr (1, [.null, .null]))] ++ mC cI cZ h a S0) H := hP
  have hD : va_D A ([(ob, .inr (1, [.null, .null]))] ++ mC cI cZ h a S0) := hD
  refine va_putF (ci := 1) (v := .ref h) (ty := .object RX0) (C := RX1) (T := TX1) (N := 2) hx hb hts in_wsX10 tyX1 tyX1_ok nmX1 hown hK hP hD hS 0 rfl rfl 0 (by decide) (hts _ q98) (fun _ h9 => h9) rfl hin rfl (by decide +kernel) rfl rfl (Nat.le_of_ble_eq_true rfl) dX1_init_12 (fun H locs hP hD hS => ?_)
  have hP : va_P D vwCl ([(ob, .inr (1, [.ref h, .null]))] ++ mC cI cZ h a S0) H := hP
  have hD : va_D A ([(ob, .inr (1, [.ref h, .null]))] ++ mC cI cZ h a S0) := hD
  refine lv_aload_n hx hb dX1_init_15 rfl (lv_at hl 0 rfl) ?_
  refine va_new (ci := 0) (C := RX0) (T := TX0) (N := 16) (fs := fs0) hx hb hts in_wsX00 tyX0 tyX0_ok hown (hts _ q28) (hts _ q29) (hts _ q10) hK hP hD hS hA rfl (by decide) (Nat.le_of_ble_eq_true rfl) (Nat.le_of_ble_eq_true rfl) dX1_init_16 (fun h2 H hP hD hS => ?_)
  refine lv_dup hx hb dX1_init_19 rfl ?_
  refine MY.callIN (b := h2) (As := []) (rest := [.ref h2, .ref ob]) (w0 := ([(ob, .inr (1, [.ref h, .null]))] ++ mC cI cZ h a S0)) (w2 := []) (wB := fun x => ([(ob, .inr (1, [.ref h, .null]))] ++ mC cI cZ h a S0) ++ (mC cI cZ h2 x S0 ++ [])) (c_X0_init l D cI cZ cL h2) ⟨hx, hb, hml, hown, hts⟩ (hE.w 13 rfl) b_X0_init rfl (n := 0) (by decide +kernel) ⟨(Nat.le_of_ble_eq_true rfl), (Nat.le_of_ble_eq_true rfl)⟩ hK hP hD hS hA (EY.non hE) rfl (fun _ => rfl) rfl hl.1 rfl (Nat.le_of_ble_eq_true rfl) dX1_init_20 ⟨(Nat.le_of_ble_eq_true rfl), (Nat.le_of_ble_eq_true rfl)⟩ (fun a2 H locs hP hD hS => ?_)
  have hP : va_P D vwCl ([(ob, .inr (1, [.ref h, .null]))] ++ (mC cI cZ h a S0 ++ mC cI cZ h2 a2 S0)) H := hP
  have hD : va_D A ([(ob, .inr (1, [.ref h, .null]))] ++ (mC cI cZ h a S0 ++ mC cI cZ h2 a2 S0)) := hD
  refine va_putF (ci := 1) (v := .ref h2) (ty := .object RX0) (C := RX1) (T := TX1) (N := 2) hx hb hts in_wsX10 tyX1 tyX1_ok nmX1 hown hK hP hD hS 0 rfl rfl 1 (by decide) (hts _ q99) (fun _ h9 => h9) rfl hin rfl (by decide +kernel) rfl rfl (Nat.le_of_ble_eq_true rfl) dX1_init_23 (fun H locs hP hD hS => ?_)
  have hP : va_P D vwCl ([(ob, .inr (1, [.ref h, .ref h2]))] ++ (mC cI cZ h a S0 ++ mC cI cZ h2 a2 S0)) H := hP
  have hD : va_D A ([(ob, .inr (1, [.ref h, .ref h2]))] ++ (mC cI cZ h a S0 ++ mC cI cZ h2 a2 S0)) := hD
  subst hQ
  exact yv ((h, h2), (a, a2)) hx hb hr hlocks hK hP hD hS dX1_init_26 rfl rfl
