abbrev rmX2_hour : Room := { frames := 1, cells := 0, slots := 0, locals := 21 }
theorem b_X2_hour : Cond.instanceMethod yX2_hour ∈ LW ∧ Cond.selects RX2 yX2_hour yX2_hour ∈ LW ∧ Cond.initialized RX2 ∈ LW ∧ Cond.code yX2_hour cX2_hour 1 (some .int) ∈ LW := ⟨q721, q722, q40, q723⟩
set_option maxHeartbeats 4000000 in
set_option maxRecDepth 100000 in
theorem c_X2_hour (l : Launch) (D : va_G) (cI cZ cL : ClassId) {n k : Nat} (o : Nat) (b : Nat → Nat) (σ : Sg) (κ ζ : Nat → Int32) (th : Int32) (hst : Shp n k σ) : MC l yX2_hour cX2_hour 1 (some .int) rmX2_hour D (tZ cI cZ cL) [.ref o] (rC cI cZ o b σ κ ζ th) (rC cI cZ o b σ κ ζ 0) (some (.int (σ 11 4))) := by
  refine MC.of (by decide) (Nat.le_of_ble_eq_true rfl) ?_
  intro p e s m args below meth c A ls Q hx hb hml hr hts hown hlocks hA hP hD hK hS hl hQ
  have hown : s.vm.findClass RX2 = some m.cls := hown
  have hl : lv_has ls 1 [(0, .ref o)] := hl
  refine lv_aload_n hx hb dX2_hour_0 rfl (lv_at hl 0 rfl) ?_
  refine lv_aload_n hx hb dX2_hour_1 rfl (lv_at hl 0 rfl) ?_
  refine x_get (C := RX2) (T := TX2) (N := 14) hx hb hts in_wsX20 hown hK hP 0 rfl rfl 11 (by decide) q603 (v := .ref (b 7)) rfl dX2_hour_2 ?_
  refine lv_iconst (v := 0) hx hb dX2_hour_5 (by decide) ?_
  refine x_ild hx hb hK hP 8 0 rfl rfl 0 (rfl) (by omega) (by decide) (v := σ 11 4) rfl dX2_hour_6 ?_
  refine MC.callV (C := RX2) (T := TX2) (N := 14) (As := [.int (σ 11 4)]) (rest := []) (wB := rC cI cZ o b σ κ ζ 0) (c_X2_ok l D cI cZ cL o b σ κ ζ th (σ 11 4)) ⟨hx, hb, hml, hown, hts⟩ q724 b_X2_ok (n := 1) (by decide +kernel) ⟨Nat.le_of_ble_eq_true rfl, Nat.le_of_ble_eq_true rfl⟩ hK hP hD hS hA (sp0 _) (sp0 _) (ci := 2) rfl (q0 := 0) rfl rfl hl.1 rfl (Nat.le_of_ble_eq_true rfl) dX2_hour_7 ⟨Nat.le_of_ble_eq_true rfl, Nat.le_of_ble_eq_true rfl⟩ (fun H locs hP hD hS => ?_)
  subst hQ
  exact ri hx hb hr hlocks hK hP hD hS dX2_hour_10 (rfl) (rfl)

abbrev rmX2_fields : Room := { frames := 1, cells := 0, slots := 0, locals := 21 }
theorem b_X2_fields : Cond.instanceMethod yX2_fields ∈ LW ∧ Cond.selects RX2 yX2_fields yX2_fields ∈ LW ∧ Cond.initialized RX2 ∈ LW ∧ Cond.code yX2_fields cX2_fields 1 (some .int) ∈ LW := ⟨q729, q730, q40, q731⟩
set_option maxHeartbeats 4000000 in
set_option maxRecDepth 100000 in
theorem c_X2_fields (l : Launch) (D : va_G) (cI cZ cL : ClassId) {n k : Nat} (o : Nat) (b : Nat → Nat) (σ : Sg) (κ ζ : Nat → Int32) (th : Int32) (hst : Shp n k σ) : MC l yX2_fields cX2_fields 1 (some .int) rmX2_fields D (tZ cI cZ cL) [.ref o] (rC cI cZ o b σ κ ζ th) (rC cI cZ o b σ κ ζ 0) (some (.int (σ 11 0))) := by
  refine MC.of (by decide) (Nat.le_of_ble_eq_true rfl) ?_
  intro p e s m args below meth c A ls Q hx hb hml hr hts hown hlocks hA hP hD hK hS hl hQ
  have hown : s.vm.findClass RX2 = some m.cls := hown
  have hl : lv_has ls 1 [(0, .ref o)] := hl
  refine lv_aload_n hx hb dX2_fields_0 rfl (lv_at hl 0 rfl) ?_
  refine lv_aload_n hx hb dX2_fields_1 rfl (lv_at hl 0 rfl) ?_
  refine x_get (C := RX2) (T := TX2) (N := 14) hx hb hts in_wsX20 hown hK hP 0 rfl rfl 1 (by decide) q593 (v := .int (σ 11 0)) rfl dX2_fields_2 ?_
  refine MC.callV (C := RX2) (T := TX2) (N := 14) (As := [.int (σ 11 0)]) (rest := []) (wB := rC cI cZ o b σ κ ζ 0) (c_X2_ok l D cI cZ cL o b σ κ ζ th (σ 11 0)) ⟨hx, hb, hml, hown, hts⟩ q724 b_X2_ok (n := 1) (by decide +kernel) ⟨Nat.le_of_ble_eq_true rfl, Nat.le_of_ble_eq_true rfl⟩ hK hP hD hS hA (sp0 _) (sp0 _) (ci := 2) rfl (q0 := 0) rfl rfl hl.1 rfl (Nat.le_of_ble_eq_true rfl) dX2_fields_5 ⟨Nat.le_of_ble_eq_true rfl, Nat.le_of_ble_eq_true rfl⟩ (fun H locs hP hD hS => ?_)
  subst hQ
  exact ri hx hb hr hlocks hK hP hD hS dX2_fields_8 (rfl) (rfl)

abbrev rmX2_drains : Room := { frames := 1, cells := 0, slots := 0, locals := 21 }
theorem b_X2_drains : Cond.instanceMethod yX2_drains ∈ LW ∧ Cond.selects RX2 yX2_drains yX2_drains ∈ LW ∧ Cond.initialized RX2 ∈ LW ∧ Cond.code yX2_drains cX2_drains 1 (some .int) ∈ LW := ⟨q733, q734, q40, q735⟩
set_option maxHeartbeats 4000000 in
set_option maxRecDepth 100000 in
theorem c_X2_drains (l : Launch) (D : va_G) (cI cZ cL : ClassId) {n k : Nat} (o : Nat) (b : Nat → Nat) (σ : Sg) (κ ζ : Nat → Int32) (th : Int32) (hst : Shp n k σ) : MC l yX2_drains cX2_drains 1 (some .int) rmX2_drains D (tZ cI cZ cL) [.ref o] (rC cI cZ o b σ κ ζ th) (rC cI cZ o b σ κ ζ 0) (some (.int (σ 11 1))) := by
  refine MC.of (by decide) (Nat.le_of_ble_eq_true rfl) ?_
  intro p e s m args below meth c A ls Q hx hb hml hr hts hown hlocks hA hP hD hK hS hl hQ
  have hown : s.vm.findClass RX2 = some m.cls := hown
  have hl : lv_has ls 1 [(0, .ref o)] := hl
  refine lv_aload_n hx hb dX2_drains_0 rfl (lv_at hl 0 rfl) ?_
  refine lv_aload_n hx hb dX2_drains_1 rfl (lv_at hl 0 rfl) ?_
  refine x_get (C := RX2) (T := TX2) (N := 14) hx hb hts in_wsX20 hown hK hP 0 rfl rfl 2 (by decide) q594 (v := .int (σ 11 1)) rfl dX2_drains_2 ?_
  refine MC.callV (C := RX2) (T := TX2) (N := 14) (As := [.int (σ 11 1)]) (rest := []) (wB := rC cI cZ o b σ κ ζ 0) (c_X2_ok l D cI cZ cL o b σ κ ζ th (σ 11 1)) ⟨hx, hb, hml, hown, hts⟩ q724 b_X2_ok (n := 1) (by decide +kernel) ⟨Nat.le_of_ble_eq_true rfl, Nat.le_of_ble_eq_true rfl⟩ hK hP hD hS hA (sp0 _) (sp0 _) (ci := 2) rfl (q0 := 0) rfl rfl hl.1 rfl (Nat.le_of_ble_eq_true rfl) dX2_drains_5 ⟨Nat.le_of_ble_eq_true rfl, Nat.le_of_ble_eq_true rfl⟩ (fun H locs hP hD hS => ?_)
  subst hQ
  exact ri hx hb hr hlocks hK hP hD hS dX2_drains_8 (rfl) (rfl)

abbrev rmX2_rain : Room := { frames := 1, cells := 0, slots := 0, locals := 21 }
theorem b_X2_rain : Cond.instanceMethod yX2_rain ∈ LW ∧ Cond.selects RX2 yX2_rain yX2_rain ∈ LW ∧ Cond.initialized RX2 ∈ LW ∧ Cond.code yX2_rain cX2_rain 1 (some .int) ∈ LW := ⟨q737, q738, q40, q739⟩
set_option maxHeartbeats 4000000 in
set_option maxRecDepth 100000 in
theorem c_X2_rain (l : Launch) (D : va_G) (cI cZ cL : ClassId) {n k : Nat} (o : Nat) (b : Nat → Nat) (σ : Sg) (κ ζ : Nat → Int32) (th : Int32) (hst : Shp n k σ) : MC l yX2_rain cX2_rain 1 (some .int) rmX2_rain D (tZ cI cZ cL) [.ref o] (rC cI cZ o b σ κ ζ th) (rC cI cZ o b σ κ ζ 0) (some (.int (σ 11 2))) := by
  refine MC.of (by decide) (Nat.le_of_ble_eq_true rfl) ?_
  intro p e s m args below meth c A ls Q hx hb hml hr hts hown hlocks hA hP hD hK hS hl hQ
  have hown : s.vm.findClass RX2 = some m.cls := hown
  have hl : lv_has ls 1 [(0, .ref o)] := hl
  refine lv_aload_n hx hb dX2_rain_0 rfl (lv_at hl 0 rfl) ?_
  refine lv_aload_n hx hb dX2_rain_1 rfl (lv_at hl 0 rfl) ?_
  refine x_get (C := RX2) (T := TX2) (N := 14) hx hb hts in_wsX20 hown hK hP 0 rfl rfl 3 (by decide) q595 (v := .int (σ 11 2)) rfl dX2_rain_2 ?_
  refine MC.callV (C := RX2) (T := TX2) (N := 14) (As := [.int (σ 11 2)]) (rest := []) (wB := rC cI cZ o b σ κ ζ 0) (c_X2_ok l D cI cZ cL o b σ κ ζ th (σ 11 2)) ⟨hx, hb, hml, hown, hts⟩ q724 b_X2_ok (n := 1) (by decide +kernel) ⟨Nat.le_of_ble_eq_true rfl, Nat.le_of_ble_eq_true rfl⟩ hK hP hD hS hA (sp0 _) (sp0 _) (ci := 2) rfl (q0 := 0) rfl rfl hl.1 rfl (Nat.le_of_ble_eq_true rfl) dX2_rain_5 ⟨Nat.le_of_ble_eq_true rfl, Nat.le_of_ble_eq_true rfl⟩ (fun H locs hP hD hS => ?_)
  subst hQ
  exact ri hx hb hr hlocks hK hP hD hS dX2_rain_8 (rfl) (rfl)

abbrev rmX2_drained : Room := { frames := 1, cells := 0, slots := 0, locals := 21 }
theorem b_X2_drained : Cond.instanceMethod yX2_drained ∈ LW ∧ Cond.selects RX2 yX2_drained yX2_drained ∈ LW ∧ Cond.initialized RX2 ∈ LW ∧ Cond.code yX2_drained cX2_drained 1 (some .int) ∈ LW := ⟨q749, q750, q40, q751⟩
set_option maxHeartbeats 4000000 in
set_option maxRecDepth 100000 in
theorem c_X2_drained (l : Launch) (D : va_G) (cI cZ cL : ClassId) {n k : Nat} (o : Nat) (b : Nat → Nat) (σ : Sg) (κ ζ : Nat → Int32) (th : Int32) (hst : Shp n k σ) : MC l yX2_drained cX2_drained 1 (some .int) rmX2_drained D (tZ cI cZ cL) [.ref o] (rC cI cZ o b σ κ ζ th) (rC cI cZ o b σ κ ζ 0) (some (.int (σ 11 3))) := by
  refine MC.of (by decide) (Nat.le_of_ble_eq_true rfl) ?_
  intro p e s m args below meth c A ls Q hx hb hml hr hts hown hlocks hA hP hD hK hS hl hQ
  have hown : s.vm.findClass RX2 = some m.cls := hown
  have hl : lv_has ls 1 [(0, .ref o)] := hl
  refine lv_aload_n hx hb dX2_drained_0 rfl (lv_at hl 0 rfl) ?_
  refine lv_aload_n hx hb dX2_drained_1 rfl (lv_at hl 0 rfl) ?_
  refine x_get (C := RX2) (T := TX2) (N := 14) hx hb hts in_wsX20 hown hK hP 0 rfl rfl 11 (by decide) q603 (v := .ref (b 7)) rfl dX2_drained_2 ?_
  refine lv_iconst (v := 1) hx hb dX2_drained_5 (by decide) ?_
  refine x_ild hx hb hK hP 8 0 rfl rfl 1 (rfl) (by omega) (by decide) (v := σ 11 3) rfl dX2_drained_6 ?_
  refine MC.callV (C := RX2) (T := TX2) (N := 14) (As := [.int (σ 11 3)]) (rest := []) (wB := rC cI cZ o b σ κ ζ 0) (c_X2_ok l D cI cZ cL o b σ κ ζ th (σ 11 3)) ⟨hx, hb, hml, hown, hts⟩ q724 b_X2_ok (n := 1) (by decide +kernel) ⟨Nat.le_of_ble_eq_true rfl, Nat.le_of_ble_eq_true rfl⟩ hK hP hD hS hA (sp0 _) (sp0 _) (ci := 2) rfl (q0 := 0) rfl rfl hl.1 rfl (Nat.le_of_ble_eq_true rfl) dX2_drained_7 ⟨Nat.le_of_ble_eq_true rfl, Nat.le_of_ble_eq_true rfl⟩ (fun H locs hP hD hS => ?_)
  subst hQ
  exact ri hx hb hr hlocks hK hP hD hS dX2_drained_10 (rfl) (rfl)

abbrev rmX2_water_ : Room := { frames := 2, cells := 0, slots := 0, locals := 43 }
theorem b_X2_water_ : Cond.instanceMethod yX2_water_ ∈ LW ∧ Cond.selects RX2 yX2_water_ yX2_water_ ∈ LW ∧ Cond.initialized RX2 ∈ LW ∧ Cond.code yX2_water_ cX2_water_ 1 (some .int) ∈ LW := ⟨q741, q742, q40, q743⟩
set_option maxHeartbeats 4000000 in
set_option maxRecDepth 100000 in
theorem c_X2_water_ (l : Launch) (D : va_G) (cI cZ cL : ClassId) {n k : Nat} (o : Nat) (b : Nat → Nat) (σ : Sg) (κ ζ : Nat → Int32) (th : Int32) (hst : Shp n k σ) {B : Nat} (hB : Bnd B σ) : MC l yX2_water_ cX2_water_ 1 (some .int) rmX2_water_ D (tZ cI cZ cL) [.ref o] (rC cI cZ o b σ κ ζ th) (rC cI cZ o b σ κ ζ 0) (some (.int (waterS σ))) := by
  refine MC.of (by decide) (Nat.le_of_ble_eq_true rfl) ?_
  intro p e s m args below meth c A ls Q hx hb hml hr hts hown hlocks hA hP hD hK hS hl hQ
  have hown : s.vm.findClass RX2 = some m.cls := hown
  have hl : lv_has ls 1 [(0, .ref o)] := hl
  refine lv_aload_n hx hb dX2_water__0 rfl (lv_at hl 0 rfl) ?_
  refine lv_aload_n hx hb dX2_water__1 rfl (lv_at hl 0 rfl) ?_
  refine MC.callV (C := RX2) (T := TX2) (N := 14) (As := []) (rest := [.ref o]) (wB := rC cI cZ o b σ κ ζ th) (c_X2_allWater l D cI cZ cL o b σ κ ζ th hst) ⟨hx, hb, hml, hown, hts⟩ q744 b_X2_allWater (n := 0) (by decide +kernel) ⟨Nat.le_of_ble_eq_true rfl, Nat.le_of_ble_eq_true rfl⟩ hK hP hD hS hA (sp0 _) (sp0 _) (ci := 2) rfl (q0 := 0) rfl rfl hl.1 rfl (Nat.le_of_ble_eq_true rfl) dX2_water__2 ⟨Nat.le_of_ble_eq_true rfl, Nat.le_of_ble_eq_true rfl⟩ (fun H locs hP hD hS => ?_)
  refine MC.callV (C := RX2) (T := TX2) (N := 14) (As := [.int (waterS σ)]) (rest := []) (wB := rC cI cZ o b σ κ ζ 0) (c_X2_ok l D cI cZ cL o b σ κ ζ th (waterS σ)) ⟨hx, hb, hml, hown, hts⟩ q724 b_X2_ok (n := 1) (by decide +kernel) ⟨Nat.le_of_ble_eq_true rfl, Nat.le_of_ble_eq_true rfl⟩ hK hP hD hS hA (sp0 _) (sp0 _) (ci := 2) rfl (q0 := 0) rfl rfl hl.1 rfl (Nat.le_of_ble_eq_true rfl) dX2_water__5 ⟨Nat.le_of_ble_eq_true rfl, Nat.le_of_ble_eq_true rfl⟩ (fun H locs hP hD hS => ?_)
  subst hQ
  exact ri hx hb hr hlocks hK hP hD hS dX2_water__8 (rfl) (rfl)

abbrev rmX2_wetFields : Room := { frames := 2, cells := 0, slots := 0, locals := 43 }
theorem b_X2_wetFields : Cond.instanceMethod yX2_wetFields ∈ LW ∧ Cond.selects RX2 yX2_wetFields yX2_wetFields ∈ LW ∧ Cond.initialized RX2 ∈ LW ∧ Cond.code yX2_wetFields cX2_wetFields 1 (some .int) ∈ LW := ⟨q753, q754, q40, q755⟩
set_option maxHeartbeats 4000000 in
set_option maxRecDepth 100000 in
theorem c_X2_wetFields (l : Launch) (D : va_G) (cI cZ cL : ClassId) {n k : Nat} (o : Nat) (b : Nat → Nat) (σ : Sg) (κ ζ : Nat → Int32) (th : Int32) (hst : Shp n k σ) {B : Nat} (hB : Bnd B σ) : MC l yX2_wetFields cX2_wetFields 1 (some .int) rmX2_wetFields D (tZ cI cZ cL) [.ref o] (rC cI cZ o b σ κ ζ th) (rC cI cZ o b σ κ ζ 0) (some (.int (wetN σ))) := by
  refine MC.of (by decide) (Nat.le_of_ble_eq_true rfl) ?_
  intro p e s m args below meth c A ls Q hx hb hml hr hts hown hlocks hA hP hD hK hS hl hQ
  have hown : s.vm.findClass RX2 = some m.cls := hown
  have hl : lv_has ls 1 [(0, .ref o)] := hl
  refine lv_aload_n hx hb dX2_wetFields_0 rfl (lv_at hl 0 rfl) ?_
  refine lv_aload_n hx hb dX2_wetFields_1 rfl (lv_at hl 0 rfl) ?_
  refine MC.callV (C := RX2) (T := TX2) (N := 14) (As := []) (rest := [.ref o]) (wB := rC cI cZ o b σ κ ζ th) (c_X2_wet l D cI cZ cL o b σ κ ζ th hst) ⟨hx, hb, hml, hown, hts⟩ q756 b_X2_wet (n := 0) (by decide +kernel) ⟨Nat.le_of_ble_eq_true rfl, Nat.le_of_ble_eq_true rfl⟩ hK hP hD hS hA (sp0 _) (sp0 _) (ci := 2) rfl (q0 := 0) rfl rfl hl.1 rfl (Nat.le_of_ble_eq_true rfl) dX2_wetFields_2 ⟨Nat.le_of_ble_eq_true rfl, Nat.le_of_ble_eq_true rfl⟩ (fun H locs hP hD hS => ?_)
  refine MC.callV (C := RX2) (T := TX2) (N := 14) (As := [.int (wetN σ)]) (rest := []) (wB := rC cI cZ o b σ κ ζ 0) (c_X2_ok l D cI cZ cL o b σ κ ζ th (wetN σ)) ⟨hx, hb, hml, hown, hts⟩ q724 b_X2_ok (n := 1) (by decide +kernel) ⟨Nat.le_of_ble_eq_true rfl, Nat.le_of_ble_eq_true rfl⟩ hK hP hD hS hA (sp0 _) (sp0 _) (ci := 2) rfl (q0 := 0) rfl rfl hl.1 rfl (Nat.le_of_ble_eq_true rfl) dX2_wetFields_5 ⟨Nat.le_of_ble_eq_true rfl, Nat.le_of_ble_eq_true rfl⟩ (fun H locs hP hD hS => ?_)
  subst hQ
  exact ri hx hb hr hlocks hK hP hD hS dX2_wetFields_8 (rfl) (rfl)

abbrev rmX2_ruinedFields : Room := { frames := 1, cells := 0, slots := 0, locals := 22 }
theorem b_X2_ruinedFields : Cond.instanceMethod yX2_ruinedFields ∈ LW ∧ Cond.selects RX2 yX2_ruinedFields yX2_ruinedFields ∈ LW ∧ Cond.initialized RX2 ∈ LW ∧ Cond.code yX2_ruinedFields cX2_ruinedFields 1 (some .int) ∈ LW := ⟨q761, q762, q40, q763⟩
set_option maxHeartbeats 4000000 in
set_option maxRecDepth 100000 in
theorem c_X2_ruinedFields (l : Launch) (D : va_G) (cI cZ cL : ClassId) {n k : Nat} (o : Nat) (b : Nat → Nat) (σ : Sg) (κ ζ : Nat → Int32) (th : Int32) (hst : Shp n k σ) {B : Nat} (hB : Bnd B σ) : MC l yX2_ruinedFields cX2_ruinedFields 1 (some .int) rmX2_ruinedFields D (tZ cI cZ cL) [.ref o] (rC cI cZ o b σ κ ζ th) (rC cI cZ o b σ κ ζ 0) (some (.int (ruinN σ))) := by
  refine MC.of (by decide) (Nat.le_of_ble_eq_true rfl) ?_
  intro p e s m args below meth c A ls Q hx hb hml hr hts hown hlocks hA hP hD hK hS hl hQ
  have hown : s.vm.findClass RX2 = some m.cls := hown
  have hl : lv_has ls 1 [(0, .ref o)] := hl
  refine lv_aload_n hx hb dX2_ruinedFields_0 rfl (lv_at hl 0 rfl) ?_
  refine lv_aload_n hx hb dX2_ruinedFields_1 rfl (lv_at hl 0 rfl) ?_
  refine MC.callV (C := RX2) (T := TX2) (N := 14) (As := []) (rest := [.ref o]) (wB := rC cI cZ o b σ κ ζ th) (c_X2_ruined l D cI cZ cL o b σ κ ζ th hst hB) ⟨hx, hb, hml, hown, hts⟩ q694 b_X2_ruined (n := 0) (by decide +kernel) ⟨Nat.le_of_ble_eq_true rfl, Nat.le_of_ble_eq_true rfl⟩ hK hP hD hS hA (sp0 _) (sp0 _) (ci := 2) rfl (q0 := 0) rfl rfl hl.1 rfl (Nat.le_of_ble_eq_true rfl) dX2_ruinedFields_2 ⟨Nat.le_of_ble_eq_true rfl, Nat.le_of_ble_eq_true rfl⟩ (fun H locs hP hD hS => ?_)
  refine MC.callV (C := RX2) (T := TX2) (N := 14) (As := [.int (ruinN σ)]) (rest := []) (wB := rC cI cZ o b σ κ ζ 0) (c_X2_ok l D cI cZ cL o b σ κ ζ th (ruinN σ)) ⟨hx, hb, hml, hown, hts⟩ q724 b_X2_ok (n := 1) (by decide +kernel) ⟨Nat.le_of_ble_eq_true rfl, Nat.le_of_ble_eq_true rfl⟩ hK hP hD hS hA (sp0 _) (sp0 _) (ci := 2) rfl (q0 := 0) rfl rfl hl.1 rfl (Nat.le_of_ble_eq_true rfl) dX2_ruinedFields_5 ⟨Nat.le_of_ble_eq_true rfl, Nat.le_of_ble_eq_true rfl⟩ (fun H locs hP hD hS => ?_)
  subst hQ
  exact ri hx hb hr hlocks hK hP hD hS dX2_ruinedFields_8 (rfl) (rfl)

abbrev rmX2_loss : Room := { frames := 1, cells := 0, slots := 0, locals := 22 }
theorem b_X2_loss : Cond.instanceMethod yX2_loss ∈ LW ∧ Cond.selects RX2 yX2_loss yX2_loss ∈ LW ∧ Cond.initialized RX2 ∈ LW ∧ Cond.code yX2_loss cX2_loss 1 (some .int) ∈ LW := ⟨q765, q766, q40, q767⟩
set_option maxHeartbeats 4000000 in
set_option maxRecDepth 100000 in
theorem c_X2_loss (l : Launch) (D : va_G) (cI cZ cL : ClassId) {n k : Nat} (o : Nat) (b : Nat → Nat) (σ : Sg) (κ ζ : Nat → Int32) (th : Int32) (hst : Shp n k σ) {B : Nat} (hB : Bnd B σ) : MC l yX2_loss cX2_loss 1 (some .int) rmX2_loss D (tZ cI cZ cL) [.ref o] (rC cI cZ o b σ κ ζ th) (rC cI cZ o b σ κ ζ 0) (some (.int (lost σ))) := by
  refine MC.of (by decide) (Nat.le_of_ble_eq_true rfl) ?_
  intro p e s m args below meth c A ls Q hx hb hml hr hts hown hlocks hA hP hD hK hS hl hQ
  have hown : s.vm.findClass RX2 = some m.cls := hown
  have hl : lv_has ls 1 [(0, .ref o)] := hl
  refine lv_aload_n hx hb dX2_loss_0 rfl (lv_at hl 0 rfl) ?_
  refine lv_aload_n hx hb dX2_loss_1 rfl (lv_at hl 0 rfl) ?_
  refine MC.callV (C := RX2) (T := TX2) (N := 14) (As := []) (rest := [.ref o]) (wB := rC cI cZ o b σ κ ζ th) (c_X2_lost l D cI cZ cL o b σ κ ζ th hst hB) ⟨hx, hb, hml, hown, hts⟩ q768 b_X2_lost (n := 0) (by decide +kernel) ⟨Nat.le_of_ble_eq_true rfl, Nat.le_of_ble_eq_true rfl⟩ hK hP hD hS hA (sp0 _) (sp0 _) (ci := 2) rfl (q0 := 0) rfl rfl hl.1 rfl (Nat.le_of_ble_eq_true rfl) dX2_loss_2 ⟨Nat.le_of_ble_eq_true rfl, Nat.le_of_ble_eq_true rfl⟩ (fun H locs hP hD hS => ?_)
  refine MC.callV (C := RX2) (T := TX2) (N := 14) (As := [.int (lost σ)]) (rest := []) (wB := rC cI cZ o b σ κ ζ 0) (c_X2_ok l D cI cZ cL o b σ κ ζ th (lost σ)) ⟨hx, hb, hml, hown, hts⟩ q724 b_X2_ok (n := 1) (by decide +kernel) ⟨Nat.le_of_ble_eq_true rfl, Nat.le_of_ble_eq_true rfl⟩ hK hP hD hS hA (sp0 _) (sp0 _) (ci := 2) rfl (q0 := 0) rfl rfl hl.1 rfl (Nat.le_of_ble_eq_true rfl) dX2_loss_5 ⟨Nat.le_of_ble_eq_true rfl, Nat.le_of_ble_eq_true rfl⟩ (fun H locs hP hD hS => ?_)
  subst hQ
  exact ri hx hb hr hlocks hK hP hD hS dX2_loss_8 (rfl) (rfl)

abbrev rmX2_highest : Room := { frames := 3, cells := 0, slots := 0, locals := 64 }
theorem b_X2_highest : Cond.instanceMethod yX2_highest ∈ LW ∧ Cond.selects RX2 yX2_highest yX2_highest ∈ LW ∧ Cond.initialized RX2 ∈ LW ∧ Cond.code yX2_highest cX2_highest 1 (some .int) ∈ LW := ⟨q813, q814, q40, q815⟩
set_option maxHeartbeats 4000000 in
set_option maxRecDepth 100000 in
theorem c_X2_highest (l : Launch) (D : va_G) (cI cZ cL : ClassId) {n k : Nat} (o : Nat) (b : Nat → Nat) (σ : Sg) (κ ζ : Nat → Int32) (th : Int32) (hst : Shp n k σ) {B : Nat} (hB : Bnd B σ) : MC l yX2_highest cX2_highest 1 (some .int) rmX2_highest D (tZ cI cZ cL) [.ref o] (rC cI cZ o b σ κ ζ th) (rC cI cZ o b σ κ ζ 0) (some (.int (amax (fun q => σ 0 q + σ 2 q) (nF σ)))) := by
  refine MC.of (by decide) (Nat.le_of_ble_eq_true rfl) ?_
  intro p e s m args below meth c A ls Q hx hb hml hr hts hown hlocks hA hP hD hK hS hl hQ
  have hown : s.vm.findClass RX2 = some m.cls := hown
  have hl : lv_has ls 1 [(0, .ref o)] := hl
  refine lv_aload_n hx hb dX2_highest_0 rfl (lv_at hl 0 rfl) ?_
  refine lv_aload_n hx hb dX2_highest_1 rfl (lv_at hl 0 rfl) ?_
  refine MC.callV (C := RX2) (T := TX2) (N := 14) (As := []) (rest := [.ref o]) (wB := rC cI cZ o b σ κ ζ th) (c_X2_high l D cI cZ cL o b σ κ ζ th hst) ⟨hx, hb, hml, hown, hts⟩ q816 b_X2_high (n := 0) (by decide +kernel) ⟨Nat.le_of_ble_eq_true rfl, Nat.le_of_ble_eq_true rfl⟩ hK hP hD hS hA (sp0 _) (sp0 _) (ci := 2) rfl (q0 := 0) rfl rfl hl.1 rfl (Nat.le_of_ble_eq_true rfl) dX2_highest_2 ⟨Nat.le_of_ble_eq_true rfl, Nat.le_of_ble_eq_true rfl⟩ (fun H locs hP hD hS => ?_)
  refine MC.callV (C := RX2) (T := TX2) (N := 14) (As := [.int (amax (fun q => σ 0 q + σ 2 q) (nF σ))]) (rest := []) (wB := rC cI cZ o b σ κ ζ 0) (c_X2_ok l D cI cZ cL o b σ κ ζ th (amax (fun q => σ 0 q + σ 2 q) (nF σ))) ⟨hx, hb, hml, hown, hts⟩ q724 b_X2_ok (n := 1) (by decide +kernel) ⟨Nat.le_of_ble_eq_true rfl, Nat.le_of_ble_eq_true rfl⟩ hK hP hD hS hA (sp0 _) (sp0 _) (ci := 2) rfl (q0 := 0) rfl rfl hl.1 rfl (Nat.le_of_ble_eq_true rfl) dX2_highest_5 ⟨Nat.le_of_ble_eq_true rfl, Nat.le_of_ble_eq_true rfl⟩ (fun H locs hP hD hS => ?_)
  subst hQ
  exact ri hx hb hr hlocks hK hP hD hS dX2_highest_8 (rfl) (rfl)

abbrev rmX2_busiest : Room := { frames := 1, cells := 0, slots := 0, locals := 22 }
theorem b_X2_busiest : Cond.instanceMethod yX2_busiest ∈ LW ∧ Cond.selects RX2 yX2_busiest yX2_busiest ∈ LW ∧ Cond.initialized RX2 ∈ LW ∧ Cond.code yX2_busiest cX2_busiest 1 (some .int) ∈ LW := ⟨q837, q838, q40, q839⟩
set_option maxHeartbeats 4000000 in
set_option maxRecDepth 100000 in
theorem c_X2_busiest (l : Launch) (D : va_G) (cI cZ cL : ClassId) {n k : Nat} (o : Nat) (b : Nat → Nat) (σ : Sg) (κ ζ : Nat → Int32) (th : Int32) (hst : Shp n k σ) {B : Nat} (hB : Bnd B σ) : MC l yX2_busiest cX2_busiest 1 (some .int) rmX2_busiest D (tZ cI cZ cL) [.ref o] (rC cI cZ o b σ κ ζ th) (rC cI cZ o b σ κ ζ 0) (some (.int (amax (fun q => σ 8 q) (nD σ)))) := by
  refine MC.of (by decide) (Nat.le_of_ble_eq_true rfl) ?_
  intro p e s m args below meth c A ls Q hx hb hml hr hts hown hlocks hA hP hD hK hS hl hQ
  have hown : s.vm.findClass RX2 = some m.cls := hown
  have hl : lv_has ls 1 [(0, .ref o)] := hl
  refine lv_aload_n hx hb dX2_busiest_0 rfl (lv_at hl 0 rfl) ?_
  refine lv_aload_n hx hb dX2_busiest_1 rfl (lv_at hl 0 rfl) ?_
  refine MC.callV (C := RX2) (T := TX2) (N := 14) (As := []) (rest := [.ref o]) (wB := rC cI cZ o b σ κ ζ th) (c_X2_busy l D cI cZ cL o b σ κ ζ th hst) ⟨hx, hb, hml, hown, hts⟩ q840 b_X2_busy (n := 0) (by decide +kernel) ⟨Nat.le_of_ble_eq_true rfl, Nat.le_of_ble_eq_true rfl⟩ hK hP hD hS hA (sp0 _) (sp0 _) (ci := 2) rfl (q0 := 0) rfl rfl hl.1 rfl (Nat.le_of_ble_eq_true rfl) dX2_busiest_2 ⟨Nat.le_of_ble_eq_true rfl, Nat.le_of_ble_eq_true rfl⟩ (fun H locs hP hD hS => ?_)
  refine MC.callV (C := RX2) (T := TX2) (N := 14) (As := [.int (amax (fun q => σ 8 q) (nD σ))]) (rest := []) (wB := rC cI cZ o b σ κ ζ 0) (c_X2_ok l D cI cZ cL o b σ κ ζ th (amax (fun q => σ 8 q) (nD σ))) ⟨hx, hb, hml, hown, hts⟩ q724 b_X2_ok (n := 1) (by decide +kernel) ⟨Nat.le_of_ble_eq_true rfl, Nat.le_of_ble_eq_true rfl⟩ hK hP hD hS hA (sp0 _) (sp0 _) (ci := 2) rfl (q0 := 0) rfl rfl hl.1 rfl (Nat.le_of_ble_eq_true rfl) dX2_busiest_5 ⟨Nat.le_of_ble_eq_true rfl, Nat.le_of_ble_eq_true rfl⟩ (fun H locs hP hD hS => ?_)
  subst hQ
  exact ri hx hb hr hlocks hK hP hD hS dX2_busiest_8 (rfl) (rfl)

abbrev rmX2_bestToTurn : Room := { frames := 8, cells := 0, slots := 0, locals := 196 }
theorem b_X2_bestToTurn : Cond.instanceMethod yX2_bestToTurn ∈ LW ∧ Cond.selects RX2 yX2_bestToTurn yX2_bestToTurn ∈ LW ∧ Cond.initialized RX2 ∈ LW ∧ Cond.code yX2_bestToTurn cX2_bestToTurn 1 (some .int) ∈ LW := ⟨q876, q877, q40, q878⟩
set_option maxHeartbeats 4000000 in
set_option maxRecDepth 100000 in
theorem c_X2_bestToTurn (l : Launch) (D : va_G) (cI cZ cL : ClassId) {n k : Nat} (o : Nat) (b : Nat → Nat) (σ : Sg) (κ ζ : Nat → Int32) (th : Int32) (hst : Shp n k σ) {B : Nat} (hB : Bnd B σ) (hB2 : B + 6300 < 2 ^ 29) : MC l yX2_bestToTurn cX2_bestToTurn 1 (some .int) rmX2_bestToTurn D (tZ cI cZ cL) [.ref o] (rC cI cZ o b σ κ ζ th) (rC cI cZ o b σ (nowF σ) ζ 0) (some (.int (turnB σ))) := by
  refine MC.of (by decide) (Nat.le_of_ble_eq_true rfl) ?_
  intro p e s m args below meth c A ls Q hx hb hml hr hts hown hlocks hA hP hD hK hS hl hQ
  have hown : s.vm.findClass RX2 = some m.cls := hown
  have hl : lv_has ls 1 [(0, .ref o)] := hl
  refine lv_aload_n hx hb dX2_bestToTurn_0 rfl (lv_at hl 0 rfl) ?_
  refine lv_aload_n hx hb dX2_bestToTurn_1 rfl (lv_at hl 0 rfl) ?_
  refine MC.callV (C := RX2) (T := TX2) (N := 14) (As := []) (rest := [.ref o]) (wB := rC cI cZ o b σ (nowF σ) ζ th) (c_X2_turned l D cI cZ cL o b σ κ ζ th hst hB (by omega)) ⟨hx, hb, hml, hown, hts⟩ q879 b_X2_turned (n := 0) (by decide +kernel) ⟨Nat.le_of_ble_eq_true rfl, Nat.le_of_ble_eq_true rfl⟩ hK hP hD hS hA (sp0 _) (sp0 _) (ci := 2) rfl (q0 := 0) rfl rfl hl.1 rfl (Nat.le_of_ble_eq_true rfl) dX2_bestToTurn_2 ⟨Nat.le_of_ble_eq_true rfl, Nat.le_of_ble_eq_true rfl⟩ (fun H locs hP hD hS => ?_)
  refine MC.callV (C := RX2) (T := TX2) (N := 14) (As := [.int (turnB σ)]) (rest := []) (wB := rC cI cZ o b σ (nowF σ) ζ 0) (c_X2_ok l D cI cZ cL o b σ (nowF σ) ζ th (turnB σ)) ⟨hx, hb, hml, hown, hts⟩ q724 b_X2_ok (n := 1) (by decide +kernel) ⟨Nat.le_of_ble_eq_true rfl, Nat.le_of_ble_eq_true rfl⟩ hK hP hD hS hA (sp0 _) (sp0 _) (ci := 2) rfl (q0 := 0) rfl rfl hl.1 rfl (Nat.le_of_ble_eq_true rfl) dX2_bestToTurn_5 ⟨Nat.le_of_ble_eq_true rfl, Nat.le_of_ble_eq_true rfl⟩ (fun H locs hP hD hS => ?_)
  subst hQ
  exact ri hx hb hr hlocks hK hP hD hS dX2_bestToTurn_8 (rfl) (rfl)
