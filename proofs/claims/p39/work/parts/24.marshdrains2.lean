abbrev rmX1_hour : Room := { frames := 0, cells := 0, slots := 0, locals := 0 }
theorem b_X1_hour : Cond.instanceMethod yX1_hour ∈ LW ∧ Cond.selects RX1 yX1_hour yX1_hour ∈ LW ∧ Cond.initialized RX1 ∈ LW ∧ Cond.code yX1_hour cX1_hour 1 (some .int) ∈ LW := ⟨q377, q378, q9, q379⟩
set_option maxHeartbeats 4000000 in
set_option maxRecDepth 100000 in
theorem c_X1_hour (l : Launch) (D : va_G) (cI cZ cL : ClassId) (ob h : Nat) (a : Nat → Nat) (h2 : Nat) (a2 : Nat → Nat) (σ τ : Sg) : MX l yX1_hour cX1_hour 1 (some .int) rmX1_hour D (tZ cI cZ cL) [.ref ob] ((oC ob h h2) ++ ((mC cI cZ h a σ) ++ (mC cI cZ h2 a2 τ))) (fun ρ => (oC ob h h2) ++ ((mC cI cZ h a σ) ++ (mC cI cZ h2 a2 ρ))) (some (.int (σ 11 4))) := by
  refine MX.of (by decide) (Nat.le_of_ble_eq_true rfl) ?_
  intro p e s m args below meth c A ls Q hx hb hml hr hts hown hlocks hA hP hD hK hS hl hQ hE
  have hown : s.vm.findClass RX1 = some m.cls := hown
  have hl : lv_has ls 1 [(0, .ref ob)] := hl
  refine lv_aload_n hx hb dX1_hour_0 rfl (lv_at hl 0 rfl) ?_
  refine x_get (C := RX1) (T := TX1) (N := 2) hx hb hts in_wsX10 hown hK hP 0 rfl rfl 0 (by decide) q98 (v := .ref h) rfl dX1_hour_1 ?_
  refine x_getN (C := RX0) (T := TX0) (N := 16) hx hb hts in_wsX00 hown hK hP 1 rfl rfl 15 (by decide) (hE.w 3 rfl) (v := .int (σ 11 4)) rfl dX1_hour_4 ?_
  subst hQ
  exact xri τ hx hb hr hlocks hK hP hD hS dX1_hour_7 (rfl) (rfl)

abbrev rmX1_fields : Room := { frames := 0, cells := 0, slots := 0, locals := 0 }
theorem b_X1_fields : Cond.instanceMethod yX1_fields ∈ LW ∧ Cond.selects RX1 yX1_fields yX1_fields ∈ LW ∧ Cond.initialized RX1 ∈ LW ∧ Cond.code yX1_fields cX1_fields 1 (some .int) ∈ LW := ⟨q227, q228, q9, q229⟩
set_option maxHeartbeats 4000000 in
set_option maxRecDepth 100000 in
theorem c_X1_fields (l : Launch) (D : va_G) (cI cZ cL : ClassId) (ob h : Nat) (a : Nat → Nat) (h2 : Nat) (a2 : Nat → Nat) (σ τ : Sg) : MX l yX1_fields cX1_fields 1 (some .int) rmX1_fields D (tZ cI cZ cL) [.ref ob] ((oC ob h h2) ++ ((mC cI cZ h a σ) ++ (mC cI cZ h2 a2 τ))) (fun ρ => (oC ob h h2) ++ ((mC cI cZ h a σ) ++ (mC cI cZ h2 a2 ρ))) (some (.int (σ 11 0))) := by
  refine MX.of (by decide) (Nat.le_of_ble_eq_true rfl) ?_
  intro p e s m args below meth c A ls Q hx hb hml hr hts hown hlocks hA hP hD hK hS hl hQ hE
  have hown : s.vm.findClass RX1 = some m.cls := hown
  have hl : lv_has ls 1 [(0, .ref ob)] := hl
  refine lv_aload_n hx hb dX1_fields_0 rfl (lv_at hl 0 rfl) ?_
  refine x_get (C := RX1) (T := TX1) (N := 2) hx hb hts in_wsX10 hown hK hP 0 rfl rfl 0 (by decide) q98 (v := .ref h) rfl dX1_fields_1 ?_
  refine x_getN (C := RX0) (T := TX0) (N := 16) hx hb hts in_wsX00 hown hK hP 1 rfl rfl 11 (by decide) (hE.w 4 rfl) (v := .int (σ 11 0)) rfl dX1_fields_4 ?_
  subst hQ
  exact xri τ hx hb hr hlocks hK hP hD hS dX1_fields_7 (rfl) (rfl)

abbrev rmX1_drains : Room := { frames := 0, cells := 0, slots := 0, locals := 0 }
theorem b_X1_drains : Cond.instanceMethod yX1_drains ∈ LW ∧ Cond.selects RX1 yX1_drains yX1_drains ∈ LW ∧ Cond.initialized RX1 ∈ LW ∧ Cond.code yX1_drains cX1_drains 1 (some .int) ∈ LW := ⟨q231, q232, q9, q233⟩
set_option maxHeartbeats 4000000 in
set_option maxRecDepth 100000 in
theorem c_X1_drains (l : Launch) (D : va_G) (cI cZ cL : ClassId) (ob h : Nat) (a : Nat → Nat) (h2 : Nat) (a2 : Nat → Nat) (σ τ : Sg) : MX l yX1_drains cX1_drains 1 (some .int) rmX1_drains D (tZ cI cZ cL) [.ref ob] ((oC ob h h2) ++ ((mC cI cZ h a σ) ++ (mC cI cZ h2 a2 τ))) (fun ρ => (oC ob h h2) ++ ((mC cI cZ h a σ) ++ (mC cI cZ h2 a2 ρ))) (some (.int (σ 11 1))) := by
  refine MX.of (by decide) (Nat.le_of_ble_eq_true rfl) ?_
  intro p e s m args below meth c A ls Q hx hb hml hr hts hown hlocks hA hP hD hK hS hl hQ hE
  have hown : s.vm.findClass RX1 = some m.cls := hown
  have hl : lv_has ls 1 [(0, .ref ob)] := hl
  refine lv_aload_n hx hb dX1_drains_0 rfl (lv_at hl 0 rfl) ?_
  refine x_get (C := RX1) (T := TX1) (N := 2) hx hb hts in_wsX10 hown hK hP 0 rfl rfl 0 (by decide) q98 (v := .ref h) rfl dX1_drains_1 ?_
  refine x_getN (C := RX0) (T := TX0) (N := 16) hx hb hts in_wsX00 hown hK hP 1 rfl rfl 12 (by decide) (hE.w 5 rfl) (v := .int (σ 11 1)) rfl dX1_drains_4 ?_
  subst hQ
  exact xri τ hx hb hr hlocks hK hP hD hS dX1_drains_7 (rfl) (rfl)

abbrev rmX1_rain : Room := { frames := 0, cells := 0, slots := 0, locals := 0 }
theorem b_X1_rain : Cond.instanceMethod yX1_rain ∈ LW ∧ Cond.selects RX1 yX1_rain yX1_rain ∈ LW ∧ Cond.initialized RX1 ∈ LW ∧ Cond.code yX1_rain cX1_rain 1 (some .int) ∈ LW := ⟨q235, q236, q9, q237⟩
set_option maxHeartbeats 4000000 in
set_option maxRecDepth 100000 in
theorem c_X1_rain (l : Launch) (D : va_G) (cI cZ cL : ClassId) (ob h : Nat) (a : Nat → Nat) (h2 : Nat) (a2 : Nat → Nat) (σ τ : Sg) : MX l yX1_rain cX1_rain 1 (some .int) rmX1_rain D (tZ cI cZ cL) [.ref ob] ((oC ob h h2) ++ ((mC cI cZ h a σ) ++ (mC cI cZ h2 a2 τ))) (fun ρ => (oC ob h h2) ++ ((mC cI cZ h a σ) ++ (mC cI cZ h2 a2 ρ))) (some (.int (σ 11 2))) := by
  refine MX.of (by decide) (Nat.le_of_ble_eq_true rfl) ?_
  intro p e s m args below meth c A ls Q hx hb hml hr hts hown hlocks hA hP hD hK hS hl hQ hE
  have hown : s.vm.findClass RX1 = some m.cls := hown
  have hl : lv_has ls 1 [(0, .ref ob)] := hl
  refine lv_aload_n hx hb dX1_rain_0 rfl (lv_at hl 0 rfl) ?_
  refine x_get (C := RX1) (T := TX1) (N := 2) hx hb hts in_wsX10 hown hK hP 0 rfl rfl 0 (by decide) q98 (v := .ref h) rfl dX1_rain_1 ?_
  refine x_getN (C := RX0) (T := TX0) (N := 16) hx hb hts in_wsX00 hown hK hP 1 rfl rfl 13 (by decide) (hE.w 1 rfl) (v := .int (σ 11 2)) rfl dX1_rain_4 ?_
  subst hQ
  exact xri τ hx hb hr hlocks hK hP hD hS dX1_rain_7 (rfl) (rfl)

abbrev rmX1_drained : Room := { frames := 0, cells := 0, slots := 0, locals := 0 }
theorem b_X1_drained : Cond.instanceMethod yX1_drained ∈ LW ∧ Cond.selects RX1 yX1_drained yX1_drained ∈ LW ∧ Cond.initialized RX1 ∈ LW ∧ Cond.code yX1_drained cX1_drained 1 (some .int) ∈ LW := ⟨q243, q244, q9, q245⟩
set_option maxHeartbeats 4000000 in
set_option maxRecDepth 100000 in
theorem c_X1_drained (l : Launch) (D : va_G) (cI cZ cL : ClassId) (ob h : Nat) (a : Nat → Nat) (h2 : Nat) (a2 : Nat → Nat) (σ τ : Sg) : MX l yX1_drained cX1_drained 1 (some .int) rmX1_drained D (tZ cI cZ cL) [.ref ob] ((oC ob h h2) ++ ((mC cI cZ h a σ) ++ (mC cI cZ h2 a2 τ))) (fun ρ => (oC ob h h2) ++ ((mC cI cZ h a σ) ++ (mC cI cZ h2 a2 ρ))) (some (.int (σ 11 3))) := by
  refine MX.of (by decide) (Nat.le_of_ble_eq_true rfl) ?_
  intro p e s m args below meth c A ls Q hx hb hml hr hts hown hlocks hA hP hD hK hS hl hQ hE
  have hown : s.vm.findClass RX1 = some m.cls := hown
  have hl : lv_has ls 1 [(0, .ref ob)] := hl
  refine lv_aload_n hx hb dX1_drained_0 rfl (lv_at hl 0 rfl) ?_
  refine x_get (C := RX1) (T := TX1) (N := 2) hx hb hts in_wsX10 hown hK hP 0 rfl rfl 0 (by decide) q98 (v := .ref h) rfl dX1_drained_1 ?_
  refine x_getN (C := RX0) (T := TX0) (N := 16) hx hb hts in_wsX00 hown hK hP 1 rfl rfl 14 (by decide) (hE.w 6 rfl) (v := .int (σ 11 3)) rfl dX1_drained_4 ?_
  subst hQ
  exact xri τ hx hb hr hlocks hK hP hD hS dX1_drained_7 (rfl) (rfl)

abbrev rmX1_ruinedFields : Room := { frames := 1, cells := 0, slots := 0, locals := 22 }
theorem b_X1_ruinedFields : Cond.instanceMethod yX1_ruinedFields ∈ LW ∧ Cond.selects RX1 yX1_ruinedFields yX1_ruinedFields ∈ LW ∧ Cond.initialized RX1 ∈ LW ∧ Cond.code yX1_ruinedFields cX1_ruinedFields 1 (some .int) ∈ LW := ⟨q519, q520, q9, q521⟩
set_option maxHeartbeats 4000000 in
set_option maxRecDepth 100000 in
theorem c_X1_ruinedFields (l : Launch) (D : va_G) (cI cZ cL : ClassId) {n k : Nat} (ob h : Nat) (a : Nat → Nat) (h2 : Nat) (a2 : Nat → Nat) (σ τ : Sg) (hst : Shp n k σ) : MX l yX1_ruinedFields cX1_ruinedFields 1 (some .int) rmX1_ruinedFields D (tZ cI cZ cL) [.ref ob] ((oC ob h h2) ++ ((mC cI cZ h a σ) ++ (mC cI cZ h2 a2 τ))) (fun ρ => (oC ob h h2) ++ ((mC cI cZ h a σ) ++ (mC cI cZ h2 a2 ρ))) (some (.int (ruinN σ))) := by
  refine MX.of (by decide) (Nat.le_of_ble_eq_true rfl) ?_
  intro p e s m args below meth c A ls Q hx hb hml hr hts hown hlocks hA hP hD hK hS hl hQ hE
  have hown : s.vm.findClass RX1 = some m.cls := hown
  have hl : lv_has ls 1 [(0, .ref ob)] := hl
  refine lv_aload_n hx hb dX1_ruinedFields_0 rfl (lv_at hl 0 rfl) ?_
  refine x_get (C := RX1) (T := TX1) (N := 2) hx hb hts in_wsX10 hown hK hP 0 rfl rfl 0 (by decide) q98 (v := .ref h) rfl dX1_ruinedFields_1 ?_
  refine MC.callV (C := RX0) (T := TX0) (N := 16) (As := []) (rest := []) (wB := (oC ob h h2) ++ ((mC cI cZ h a σ) ++ (mC cI cZ h2 a2 τ))) (c_X0_countRuined l D cI cZ cL h a σ hst) ⟨hx, hb, hml, hown, hts⟩ q180 b_X0_countRuined (n := 0) (by decide +kernel) ⟨Nat.le_of_ble_eq_true rfl, Nat.le_of_ble_eq_true rfl⟩ hK hP hD hS hA (sp1 _ _ _) (sp1 _ _ _) (ci := 0) rfl (q0 := 1) rfl rfl hl.1 rfl (Nat.le_of_ble_eq_true rfl) dX1_ruinedFields_4 ⟨Nat.le_of_ble_eq_true rfl, Nat.le_of_ble_eq_true rfl⟩ (fun H locs hP hD hS => ?_)
  subst hQ
  exact xri τ hx hb hr hlocks hK hP hD hS dX1_ruinedFields_7 (rfl) (rfl)

abbrev rmX1_loss : Room := { frames := 1, cells := 0, slots := 0, locals := 22 }
theorem b_X1_loss : Cond.instanceMethod yX1_loss ∈ LW ∧ Cond.selects RX1 yX1_loss yX1_loss ∈ LW ∧ Cond.initialized RX1 ∈ LW ∧ Cond.code yX1_loss cX1_loss 1 (some .int) ∈ LW := ⟨q247, q248, q9, q249⟩
set_option maxHeartbeats 4000000 in
set_option maxRecDepth 100000 in
theorem c_X1_loss (l : Launch) (D : va_G) (cI cZ cL : ClassId) {n k : Nat} (ob h : Nat) (a : Nat → Nat) (h2 : Nat) (a2 : Nat → Nat) (σ τ : Sg) (hst : Shp n k σ) : MX l yX1_loss cX1_loss 1 (some .int) rmX1_loss D (tZ cI cZ cL) [.ref ob] ((oC ob h h2) ++ ((mC cI cZ h a σ) ++ (mC cI cZ h2 a2 τ))) (fun ρ => (oC ob h h2) ++ ((mC cI cZ h a σ) ++ (mC cI cZ h2 a2 ρ))) (some (.int (lost σ))) := by
  refine MX.of (by decide) (Nat.le_of_ble_eq_true rfl) ?_
  intro p e s m args below meth c A ls Q hx hb hml hr hts hown hlocks hA hP hD hK hS hl hQ hE
  have hown : s.vm.findClass RX1 = some m.cls := hown
  have hl : lv_has ls 1 [(0, .ref ob)] := hl
  refine lv_aload_n hx hb dX1_loss_0 rfl (lv_at hl 0 rfl) ?_
  refine x_get (C := RX1) (T := TX1) (N := 2) hx hb hts in_wsX10 hown hK hP 0 rfl rfl 0 (by decide) q98 (v := .ref h) rfl dX1_loss_1 ?_
  refine MC.callV (C := RX0) (T := TX0) (N := 16) (As := []) (rest := []) (wB := (oC ob h h2) ++ ((mC cI cZ h a σ) ++ (mC cI cZ h2 a2 τ))) (c_X0_lostWorth l D cI cZ cL h a σ hst) ⟨hx, hb, hml, hown, hts⟩ q250 b_X0_lostWorth (n := 0) (by decide +kernel) ⟨Nat.le_of_ble_eq_true rfl, Nat.le_of_ble_eq_true rfl⟩ hK hP hD hS hA (sp1 _ _ _) (sp1 _ _ _) (ci := 0) rfl (q0 := 1) rfl rfl hl.1 rfl (Nat.le_of_ble_eq_true rfl) dX1_loss_4 ⟨Nat.le_of_ble_eq_true rfl, Nat.le_of_ble_eq_true rfl⟩ (fun H locs hP hD hS => ?_)
  subst hQ
  exact xri τ hx hb hr hlocks hK hP hD hS dX1_loss_7 (rfl) (rfl)

abbrev rmX1_water : Room := { frames := 0, cells := 0, slots := 0, locals := 0 }
theorem b_X1_water : Cond.instanceMethod yX1_water ∈ LW ∧ Cond.selects RX1 yX1_water yX1_water ∈ LW ∧ Cond.initialized RX1 ∈ LW ∧ Cond.code yX1_water cX1_water 3 (some .int) ∈ LW := ⟨q239, q240, q9, q241⟩
set_option maxHeartbeats 4000000 in
set_option maxRecDepth 100000 in
theorem c_X1_water (l : Launch) (D : va_G) (cI cZ cL : ClassId) {n k : Nat} (ob h : Nat) (a : Nat → Nat) (h2 : Nat) (a2 : Nat → Nat) (σ τ : Sg) (hst : Shp n k σ) : MX l yX1_water cX1_water 3 (some .int) rmX1_water D (tZ cI cZ cL) [.ref ob] ((oC ob h h2) ++ ((mC cI cZ h a σ) ++ (mC cI cZ h2 a2 τ))) (fun ρ => (oC ob h h2) ++ ((mC cI cZ h a σ) ++ (mC cI cZ h2 a2 ρ))) (some (.int (waterS σ))) := by
  refine MX.of (by decide) (Nat.le_of_ble_eq_true rfl) ?_
  intro p e s m args below meth c A ls Q hx hb hml hr hts hown hlocks hA hP hD hK hS hl hQ hE
  have hown : s.vm.findClass RX1 = some m.cls := hown
  have hn10 := hst.1
  have hk16 := hst.2.1
  have hl : lv_has ls 3 [(0, .ref ob)] := hl
  refine lv_iconst (v := 0) hx hb dX1_water_0 (by decide) ?_
  refine lv_istore_n (lv' := [(1, .int 0), (0, .ref ob)]) hx hb dX1_water_1 rfl hl (by decide) rfl (fun ls hl => ?_)
  refine lv_iconst (v := 0) hx hb dX1_water_2 (by decide) ?_
  refine lv_istore_n (lv' := [(2, .int 0), (1, .int 0), (0, .ref ob)]) hx hb dX1_water_3 rfl hl (by decide) rfl (fun ls hl => ?_)
  have hl : lv_has ls 3 [(2, .int (nI 0)), (1, .int (sumI (fun f => σ 2 f) 0)), (0, .ref ob)] := hl
  have L4 : ∀ (f i : Nat), i ≤ n → n < i + f → ∀ (H : Heap) (locs : List Loc) (ls : Array Slot), va_P D vwCl ((oC ob h h2) ++ ((mC cI cZ h a σ) ++ (mC cI cZ h2 a2 τ))) H → va_D A ((oC ob h h2) ++ ((mC cI cZ h a σ) ++ (mC cI cZ h2 a2 τ))) → va_S A s.heap H locs → lv_has ls 3 [(0, .ref ob), (1, .int (sumI (fun f => σ 2 f) i)), (2, .int (nI i))] → W p l e rmX1_water s m args below meth c H locs 0 0 Q (F0 m 4 ls []) := by
    intro f
    induction f with
    | zero => intro i h1 h2; exact absurd h2 (by omega)
    | succ f ih_4 =>
      intro i hi_4 hf_4 H locs ls hP hD hS hl
      refine lv_iload_n hx hb dX1_water_4 rfl (lv_at hl 2 rfl) ?_
      refine lv_aload_n hx hb dX1_water_5 rfl (lv_at hl 0 rfl) ?_
      refine x_get (C := RX1) (T := TX1) (N := 2) hx hb hts in_wsX10 hown hK hP 0 rfl rfl 0 (by decide) q98 (v := .ref h) rfl dX1_water_6 ?_
      refine x_getN (C := RX0) (T := TX0) (N := 16) hx hb hts in_wsX00 hown hK hP 1 rfl rfl 11 (by decide) (hE.w 4 rfl) (v := .int (nI n)) (congrArg (fun z => some (Value.int z)) (hst.f0)) dX1_water_9 ?_
      refine lv_icmp_ge (tgt := 33) hx hb dX1_water_12 (by decide) (fun c_12 => ?_) (fun c_12 => ?_)
      · have hc_12 : n ≤ i := (nI_leI (a := n) (b := i) (by omega) (by omega)).mp c_12
        refine lv_iload_n hx hb dX1_water_33 rfl (lv_at hl 1 rfl) ?_
        subst hQ
        exact xri τ hx hb hr hlocks hK hP hD hS dX1_water_34 (rfl) (by unfold waterS; rw [hst.eF, show i = n by omega])
      · have hc_12 : i < n := Nat.not_le.mp (fun z => c_12 ((nI_leI (a := n) (b := i) (by omega) (by omega)).mpr z))
        refine lv_iload_n hx hb dX1_water_15 rfl (lv_at hl 1 rfl) ?_
        refine lv_aload_n hx hb dX1_water_16 rfl (lv_at hl 0 rfl) ?_
        refine x_get (C := RX1) (T := TX1) (N := 2) hx hb hts in_wsX10 hown hK hP 0 rfl rfl 0 (by decide) q98 (v := .ref h) rfl dX1_water_17 ?_
        refine x_getN (C := RX0) (T := TX0) (N := 16) hx hb hts in_wsX00 hown hK hP 1 rfl rfl 2 (by decide) (hE.w 2 rfl) (v := .ref (a 2)) rfl dX1_water_20 ?_
        refine lv_iload_n hx hb dX1_water_23 rfl (lv_at hl 2 rfl) ?_
        refine x_ild hx hb hK hP 4 0 rfl rfl i (rfl) (by omega) (by decide) (v := σ 2 i) rfl dX1_water_24 ?_
        refine lv_iadd hx hb dX1_water_25 ?_
        refine lv_topi (fun v_1 ev_1 => ?_)
        refine lv_istore_n (lv' := [(1, .int v_1), (0, .ref ob), (2, .int (nI i))]) hx hb dX1_water_26 rfl hl (by decide) rfl (fun ls hl => ?_)
        refine lv_iinc (v := (nI (i + 1))) (lv' := [(2, .int (nI (i + 1))), (1, .int v_1), (0, .ref ob)]) hx hb dX1_water_27 hl (k := 2) rfl (nI_add i 1) (by decide) rfl (fun ls hl => ?_)
        refine lv_goto (tgt := 4) hx hb dX1_water_30 (by decide) ?_
        have e8 : v_1 = sumI (fun f => σ 2 f) (i + 1) := by
          rw [ev_1]
          exact sum_1 (g := (fun f => σ 2 f)) rfl
        rw [e8] at hl
        exact ih_4 (i + 1) (by omega) (by omega) _ _ _ hP hD hS (lv_sub hl [2, 1, 0] rfl)
  exact L4 (n + 1) 0 (by omega) (by omega) _ _ _ hP hD hS (lv_sub hl [2, 1, 0] rfl)

abbrev rmX1_wetFields : Room := { frames := 2, cells := 0, slots := 0, locals := 42 }
theorem b_X1_wetFields : Cond.instanceMethod yX1_wetFields ∈ LW ∧ Cond.selects RX1 yX1_wetFields yX1_wetFields ∈ LW ∧ Cond.initialized RX1 ∈ LW ∧ Cond.code yX1_wetFields cX1_wetFields 3 (some .int) ∈ LW := ⟨q390, q391, q9, q392⟩
set_option maxHeartbeats 4000000 in
set_option maxRecDepth 100000 in
theorem c_X1_wetFields (l : Launch) (D : va_G) (cI cZ cL : ClassId) {n k : Nat} (ob h : Nat) (a : Nat → Nat) (h2 : Nat) (a2 : Nat → Nat) (σ τ : Sg) (hst : Shp n k σ) : MX l yX1_wetFields cX1_wetFields 3 (some .int) rmX1_wetFields D (tZ cI cZ cL) [.ref ob] ((oC ob h h2) ++ ((mC cI cZ h a σ) ++ (mC cI cZ h2 a2 τ))) (fun ρ => (oC ob h h2) ++ ((mC cI cZ h a σ) ++ (mC cI cZ h2 a2 ρ))) (some (.int (wetN σ))) := by
  refine MX.of (by decide) (Nat.le_of_ble_eq_true rfl) ?_
  intro p e s m args below meth c A ls Q hx hb hml hr hts hown hlocks hA hP hD hK hS hl hQ hE
  have hown : s.vm.findClass RX1 = some m.cls := hown
  have hn10 := hst.1
  have hk16 := hst.2.1
  have hl : lv_has ls 3 [(0, .ref ob)] := hl
  refine lv_iconst (v := 0) hx hb dX1_wetFields_0 (by decide) ?_
  refine lv_istore_n (lv' := [(1, .int 0), (0, .ref ob)]) hx hb dX1_wetFields_1 rfl hl (by decide) rfl (fun ls hl => ?_)
  refine lv_iconst (v := 0) hx hb dX1_wetFields_2 (by decide) ?_
  refine lv_istore_n (lv' := [(2, .int 0), (1, .int 0), (0, .ref ob)]) hx hb dX1_wetFields_3 rfl hl (by decide) rfl (fun ls hl => ?_)
  have hl : lv_has ls 3 [(2, .int (nI 0)), (1, .int (sumI (fun f => isW σ f) 0)), (0, .ref ob)] := hl
  have L4 : ∀ (f i : Nat), i ≤ n → n < i + f → ∀ (H : Heap) (locs : List Loc) (ls : Array Slot), va_P D vwCl ((oC ob h h2) ++ ((mC cI cZ h a σ) ++ (mC cI cZ h2 a2 τ))) H → va_D A ((oC ob h h2) ++ ((mC cI cZ h a σ) ++ (mC cI cZ h2 a2 τ))) → va_S A s.heap H locs → lv_has ls 3 [(0, .ref ob), (1, .int (sumI (fun f => isW σ f) i)), (2, .int (nI i))] → W p l e rmX1_wetFields s m args below meth c H locs 0 0 Q (F0 m 4 ls []) := by
    intro f
    induction f with
    | zero => intro i h1 h2; exact absurd h2 (by omega)
    | succ f ih_4 =>
      intro i hi_4 hf_4 H locs ls hP hD hS hl
      refine lv_iload_n hx hb dX1_wetFields_4 rfl (lv_at hl 2 rfl) ?_
      refine lv_aload_n hx hb dX1_wetFields_5 rfl (lv_at hl 0 rfl) ?_
      refine x_get (C := RX1) (T := TX1) (N := 2) hx hb hts in_wsX10 hown hK hP 0 rfl rfl 0 (by decide) q98 (v := .ref h) rfl dX1_wetFields_6 ?_
      refine x_getN (C := RX0) (T := TX0) (N := 16) hx hb hts in_wsX00 hown hK hP 1 rfl rfl 11 (by decide) (hE.w 4 rfl) (v := .int (nI n)) (congrArg (fun z => some (Value.int z)) (hst.f0)) dX1_wetFields_9 ?_
      refine lv_icmp_ge (tgt := 35) hx hb dX1_wetFields_12 (by decide) (fun c_12 => ?_) (fun c_12 => ?_)
      · have hc_12 : n ≤ i := (nI_leI (a := n) (b := i) (by omega) (by omega)).mp c_12
        refine lv_iload_n hx hb dX1_wetFields_35 rfl (lv_at hl 1 rfl) ?_
        subst hQ
        exact xri τ hx hb hr hlocks hK hP hD hS dX1_wetFields_36 (rfl) (by unfold wetN; rw [hst.eF, show i = n by omega])
      · have hc_12 : i < n := Nat.not_le.mp (fun z => c_12 ((nI_leI (a := n) (b := i) (by omega) (by omega)).mpr z))
        refine lv_aload_n hx hb dX1_wetFields_15 rfl (lv_at hl 0 rfl) ?_
        refine x_get (C := RX1) (T := TX1) (N := 2) hx hb hts in_wsX10 hown hK hP 0 rfl rfl 0 (by decide) q98 (v := .ref h) rfl dX1_wetFields_16 ?_
        refine lv_iload_n hx hb dX1_wetFields_19 rfl (lv_at hl 2 rfl) ?_
        refine MC.callV (C := RX0) (T := TX0) (N := 16) (As := [.int (nI i)]) (rest := []) (wB := (oC ob h h2) ++ ((mC cI cZ h a σ) ++ (mC cI cZ h2 a2 τ))) (c_X0_isWet l D cI cZ cL h a σ hst i (by omega)) ⟨hx, hb, hml, hown, hts⟩ q393 b_X0_isWet (n := 1) (by decide +kernel) ⟨Nat.le_of_ble_eq_true rfl, Nat.le_of_ble_eq_true rfl⟩ hK hP hD hS hA (sp1 _ _ _) (sp1 _ _ _) (ci := 0) rfl (q0 := 1) rfl rfl hl.1 rfl (Nat.le_of_ble_eq_true rfl) dX1_wetFields_20 ⟨Nat.le_of_ble_eq_true rfl, Nat.le_of_ble_eq_true rfl⟩ (fun H locs hP hD hS => ?_)
        refine lv_if_eq (tgt := 29) hx hb dX1_wetFields_23 (by decide) (fun c_23 => ?_) (fun c_23 => ?_)
        · refine lv_iinc (v := (nI (i + 1))) (lv' := [(2, .int (nI (i + 1))), (0, .ref ob), (1, .int (sumI (fun f => isW σ f) i))]) hx hb dX1_wetFields_29 hl (k := 2) rfl (nI_add i 1) (by decide) rfl (fun ls hl => ?_)
          refine lv_goto (tgt := 4) hx hb dX1_wetFields_32 (by decide) ?_
          have e8 : sumI (fun f => isW σ f) i = sumI (fun f => isW σ f) (i + 1) := by
            exact sum_0 (g := (fun f => isW σ f)) c_23
          rw [e8] at hl
          exact ih_4 (i + 1) (by omega) (by omega) _ _ _ hP hD hS (lv_sub hl [1, 2, 0] rfl)
        · refine lv_iinc (v := sumI (fun f => isW σ f) i + 1) (lv' := [(1, .int (sumI (fun f => isW σ f) i + 1)), (0, .ref ob), (2, .int (nI i))]) hx hb dX1_wetFields_26 hl (k := 1) rfl (rfl) (by decide) rfl (fun ls hl => ?_)
          refine lv_iinc (v := (nI (i + 1))) (lv' := [(2, .int (nI (i + 1))), (1, .int (sumI (fun f => isW σ f) i + 1)), (0, .ref ob)]) hx hb dX1_wetFields_29 hl (k := 2) rfl (nI_add i 1) (by decide) rfl (fun ls hl => ?_)
          refine lv_goto (tgt := 4) hx hb dX1_wetFields_32 (by decide) ?_
          have e8 : sumI (fun f => isW σ f) i + 1 = sumI (fun f => isW σ f) (i + 1) := by
            exact sum_1 (g := (fun f => isW σ f)) (isW_1 c_23)
          rw [e8] at hl
          exact ih_4 (i + 1) (by omega) (by omega) _ _ _ hP hD hS (lv_sub hl [2, 1, 0] rfl)
  exact L4 (n + 1) 0 (by omega) (by omega) _ _ _ hP hD hS (lv_sub hl [2, 1, 0] rfl)

abbrev rmX1_drainsAt : Room := { frames := 2, cells := 0, slots := 0, locals := 81 }
theorem b_X1_drainsAt : Cond.instanceMethod yX1_drainsAt ∈ LW ∧ Cond.selects RX1 yX1_drainsAt yX1_drainsAt ∈ LW ∧ Cond.initialized RX1 ∈ LW ∧ Cond.code yX1_drainsAt cX1_drainsAt 4 (some .int) ∈ LW := ⟨q296, q297, q9, q298⟩
set_option maxHeartbeats 4000000 in
set_option maxRecDepth 100000 in
theorem c_X1_drainsAt (l : Launch) (D : va_G) (cI cZ cL : ClassId) {n k : Nat} (ob h : Nat) (a : Nat → Nat) (h2 : Nat) (a2 : Nat → Nat) (σ τ : Sg) (hst : Shp n k σ) (j : Nat) (hj : j < n) : MX l yX1_drainsAt cX1_drainsAt 4 (some .int) rmX1_drainsAt D (tZ cI cZ cL) [.ref ob, .int (nI j)] ((oC ob h h2) ++ ((mC cI cZ h a σ) ++ (mC cI cZ h2 a2 τ))) (fun ρ => (oC ob h h2) ++ ((mC cI cZ h a σ) ++ (mC cI cZ h2 a2 ρ))) (some (.int (openS σ j))) := by
  refine MX.of (by decide) (Nat.le_of_ble_eq_true rfl) ?_
  intro p e s m args below meth c A ls Q hx hb hml hr hts hown hlocks hA hP hD hK hS hl hQ hE
  have hown : s.vm.findClass RX1 = some m.cls := hown
  have hn10 := hst.1
  have hk16 := hst.2.1
  have hl : lv_has ls 4 [(0, .ref ob), (1, .int (nI j))] := hl
  refine lv_aload_n hx hb dX1_drainsAt_0 rfl (lv_at hl 0 rfl) ?_
  refine lv_iload_n hx hb dX1_drainsAt_1 rfl (lv_at hl 1 rfl) ?_
  refine MC.callV (C := RX1) (T := TX1) (N := 2) (As := [.int (nI j)]) (rest := []) (wB := (oC ob h h2) ++ ((mC cI cZ h a σ) ++ (mC cI cZ h2 a2 τ))) (c_X1_requireField_ok l D cI cZ cL ob h a h2 a2 σ τ (nI j) (hasF_0 hst hj)) ⟨hx, hb, hml, hown, hts⟩ q258 b_X1_requireField (n := 1) (by decide +kernel) ⟨Nat.le_of_ble_eq_true rfl, Nat.le_of_ble_eq_true rfl⟩ hK hP hD hS hA (sp0 _) (sp0 _) (ci := 1) rfl (q0 := 0) rfl rfl hl.1 rfl (Nat.le_of_ble_eq_true rfl) dX1_drainsAt_2 ⟨Nat.le_of_ble_eq_true rfl, Nat.le_of_ble_eq_true rfl⟩ (fun H locs hP hD hS => ?_)
  refine lv_iconst (v := 0) hx hb dX1_drainsAt_5 (by decide) ?_
  refine lv_istore_n (lv' := [(2, .int 0), (0, .ref ob), (1, .int (nI j))]) hx hb dX1_drainsAt_6 rfl hl (by decide) rfl (fun ls hl => ?_)
  refine lv_iconst (v := 0) hx hb dX1_drainsAt_7 (by decide) ?_
  refine lv_istore_n (lv' := [(3, .int 0), (2, .int 0), (0, .ref ob), (1, .int (nI j))]) hx hb dX1_drainsAt_8 rfl hl (by decide) rfl (fun ls hl => ?_)
  have hl : lv_has ls 4 [(3, .int (nI 0)), (2, .int (sumI (fun f => opB σ j f) 0)), (0, .ref ob), (1, .int (nI j))] := hl
  have L9 : ∀ (f i : Nat), i ≤ k → k < i + f → ∀ (H : Heap) (locs : List Loc) (ls : Array Slot), va_P D vwCl ((oC ob h h2) ++ ((mC cI cZ h a σ) ++ (mC cI cZ h2 a2 τ))) H → va_D A ((oC ob h h2) ++ ((mC cI cZ h a σ) ++ (mC cI cZ h2 a2 τ))) → va_S A s.heap H locs → lv_has ls 4 [(0, .ref ob), (1, .int (nI j)), (2, .int (sumI (fun f => opB σ j f) i)), (3, .int (nI i))] → W p l e rmX1_drainsAt s m args below meth c H locs 0 0 Q (F0 m 9 ls []) := by
    intro f
    induction f with
    | zero => intro i h1 h2; exact absurd h2 (by omega)
    | succ f ih_9 =>
      intro i hi_9 hf_9 H locs ls hP hD hS hl
      refine lv_iload_n hx hb dX1_drainsAt_9 rfl (lv_at hl 3 rfl) ?_
      refine lv_aload_n hx hb dX1_drainsAt_10 rfl (lv_at hl 0 rfl) ?_
      refine x_get (C := RX1) (T := TX1) (N := 2) hx hb hts in_wsX10 hown hK hP 0 rfl rfl 0 (by decide) q98 (v := .ref h) rfl dX1_drainsAt_11 ?_
      refine x_getN (C := RX0) (T := TX0) (N := 16) hx hb hts in_wsX00 hown hK hP 1 rfl rfl 12 (by decide) (hE.w 5 rfl) (v := .int (nI k)) (congrArg (fun z => some (Value.int z)) (hst.f1)) dX1_drainsAt_14 ?_
      refine lv_icmp_ge (tgt := 67) hx hb dX1_drainsAt_17 (by decide) (fun c_17 => ?_) (fun c_17 => ?_)
      · have hc_17 : k ≤ i := (nI_leI (a := k) (b := i) (by omega) (by omega)).mp c_17
        refine lv_iload_n hx hb dX1_drainsAt_67 rfl (lv_at hl 2 rfl) ?_
        subst hQ
        exact xri τ hx hb hr hlocks hK hP hD hS dX1_drainsAt_68 (rfl) (by unfold openS; rw [hst.eD, show i = k by omega])
      · have hc_17 : i < k := Nat.not_le.mp (fun z => c_17 ((nI_leI (a := k) (b := i) (by omega) (by omega)).mpr z))
        refine lv_aload_n hx hb dX1_drainsAt_20 rfl (lv_at hl 0 rfl) ?_
        refine x_get (C := RX1) (T := TX1) (N := 2) hx hb hts in_wsX10 hown hK hP 0 rfl rfl 0 (by decide) q98 (v := .ref h) rfl dX1_drainsAt_21 ?_
        refine x_getN (C := RX0) (T := TX0) (N := 16) hx hb hts in_wsX00 hown hK hP 1 rfl rfl 10 (by decide) (hE.w 0 rfl) (v := .ref (a 10)) rfl dX1_drainsAt_24 ?_
        refine lv_iload_n hx hb dX1_drainsAt_27 rfl (lv_at hl 3 rfl) ?_
        refine x_zld hx hb hK hP 12 1 rfl rfl i (rfl) (by omega) (by decide) (v := σ 10 i) rfl dX1_drainsAt_28 ?_
        refine lv_if_eq (tgt := 61) hx hb dX1_drainsAt_29 (by decide) (fun c_29 => ?_) (fun c_29 => ?_)
        · refine lv_iinc (v := (nI (i + 1))) (lv' := [(3, .int (nI (i + 1))), (0, .ref ob), (1, .int (nI j)), (2, .int (sumI (fun f => opB σ j f) i))]) hx hb dX1_drainsAt_61 hl (k := 3) rfl (nI_add i 1) (by decide) rfl (fun ls hl => ?_)
          refine lv_goto (tgt := 9) hx hb dX1_drainsAt_64 (by decide) ?_
          have e8 : sumI (fun f => opB σ j f) i = sumI (fun f => opB σ j f) (i + 1) := by
            exact sum_0 (g := (fun f => opB σ j f)) (opB_0 c_29)
          rw [e8] at hl
          exact ih_9 (i + 1) (by omega) (by omega) _ _ _ hP hD hS (lv_sub hl [1, 2, 3, 0] rfl)
        · refine lv_aload_n hx hb dX1_drainsAt_32 rfl (lv_at hl 0 rfl) ?_
          refine x_get (C := RX1) (T := TX1) (N := 2) hx hb hts in_wsX10 hown hK hP 0 rfl rfl 0 (by decide) q98 (v := .ref h) rfl dX1_drainsAt_33 ?_
          refine x_getN (C := RX0) (T := TX0) (N := 16) hx hb hts in_wsX00 hown hK hP 1 rfl rfl 5 (by decide) (hE.w 9 rfl) (v := .ref (a 5)) rfl dX1_drainsAt_36 ?_
          refine lv_iload_n hx hb dX1_drainsAt_39 rfl (lv_at hl 3 rfl) ?_
          refine x_ild hx hb hK hP 7 0 rfl rfl i (rfl) (by omega) (by decide) (v := σ 5 i) rfl dX1_drainsAt_40 ?_
          refine lv_iload_n hx hb dX1_drainsAt_41 rfl (lv_at hl 1 rfl) ?_
          refine lv_icmp_eq (tgt := 58) hx hb dX1_drainsAt_42 (by decide) (fun c_42 => ?_) (fun c_42 => ?_)
          · refine lv_iinc (v := sumI (fun f => opB σ j f) i + 1) (lv' := [(2, .int (sumI (fun f => opB σ j f) i + 1)), (0, .ref ob), (1, .int (nI j)), (3, .int (nI i))]) hx hb dX1_drainsAt_58 hl (k := 2) rfl (rfl) (by decide) rfl (fun ls hl => ?_)
            refine lv_iinc (v := (nI (i + 1))) (lv' := [(3, .int (nI (i + 1))), (2, .int (sumI (fun f => opB σ j f) i + 1)), (0, .ref ob), (1, .int (nI j))]) hx hb dX1_drainsAt_61 hl (k := 3) rfl (nI_add i 1) (by decide) rfl (fun ls hl => ?_)
            refine lv_goto (tgt := 9) hx hb dX1_drainsAt_64 (by decide) ?_
            have e8 : sumI (fun f => opB σ j f) i + 1 = sumI (fun f => opB σ j f) (i + 1) := by
              exact sum_1 (g := (fun f => opB σ j f)) (opB_1 c_29 c_42)
            rw [e8] at hl
            exact ih_9 (i + 1) (by omega) (by omega) _ _ _ hP hD hS (lv_sub hl [2, 3, 1, 0] rfl)
          · refine lv_aload_n hx hb dX1_drainsAt_45 rfl (lv_at hl 0 rfl) ?_
            refine x_get (C := RX1) (T := TX1) (N := 2) hx hb hts in_wsX10 hown hK hP 0 rfl rfl 0 (by decide) q98 (v := .ref h) rfl dX1_drainsAt_46 ?_
            refine x_getN (C := RX0) (T := TX0) (N := 16) hx hb hts in_wsX00 hown hK hP 1 rfl rfl 6 (by decide) (hE.w 10 rfl) (v := .ref (a 6)) rfl dX1_drainsAt_49 ?_
            refine lv_iload_n hx hb dX1_drainsAt_52 rfl (lv_at hl 3 rfl) ?_
            refine x_ild hx hb hK hP 8 0 rfl rfl i (rfl) (by omega) (by decide) (v := σ 6 i) rfl dX1_drainsAt_53 ?_
            refine lv_iload_n hx hb dX1_drainsAt_54 rfl (lv_at hl 1 rfl) ?_
            refine lv_icmp_ne (tgt := 61) hx hb dX1_drainsAt_55 (by decide) (fun c_55 => ?_) (fun c_55 => ?_)
            · refine lv_iinc (v := (nI (i + 1))) (lv' := [(3, .int (nI (i + 1))), (0, .ref ob), (1, .int (nI j)), (2, .int (sumI (fun f => opB σ j f) i))]) hx hb dX1_drainsAt_61 hl (k := 3) rfl (nI_add i 1) (by decide) rfl (fun ls hl => ?_)
              refine lv_goto (tgt := 9) hx hb dX1_drainsAt_64 (by decide) ?_
              have e8 : sumI (fun f => opB σ j f) i = sumI (fun f => opB σ j f) (i + 1) := by
                exact sum_0 (g := (fun f => opB σ j f)) (opB_3 c_29 c_42 c_55)
              rw [e8] at hl
              exact ih_9 (i + 1) (by omega) (by omega) _ _ _ hP hD hS (lv_sub hl [1, 2, 3, 0] rfl)
            · refine lv_iinc (v := sumI (fun f => opB σ j f) i + 1) (lv' := [(2, .int (sumI (fun f => opB σ j f) i + 1)), (0, .ref ob), (1, .int (nI j)), (3, .int (nI i))]) hx hb dX1_drainsAt_58 hl (k := 2) rfl (rfl) (by decide) rfl (fun ls hl => ?_)
              refine lv_iinc (v := (nI (i + 1))) (lv' := [(3, .int (nI (i + 1))), (2, .int (sumI (fun f => opB σ j f) i + 1)), (0, .ref ob), (1, .int (nI j))]) hx hb dX1_drainsAt_61 hl (k := 3) rfl (nI_add i 1) (by decide) rfl (fun ls hl => ?_)
              refine lv_goto (tgt := 9) hx hb dX1_drainsAt_64 (by decide) ?_
              have e8 : sumI (fun f => opB σ j f) i + 1 = sumI (fun f => opB σ j f) (i + 1) := by
                exact sum_1 (g := (fun f => opB σ j f)) (opB_2 c_29 c_42 c_55)
              rw [e8] at hl
              exact ih_9 (i + 1) (by omega) (by omega) _ _ _ hP hD hS (lv_sub hl [2, 3, 1, 0] rfl)
  exact L9 (k + 1) 0 (by omega) (by omega) _ _ _ hP hD hS (lv_sub hl [2, 3, 1, 0] rfl)

abbrev rmX1_waterOn : Room := { frames := 2, cells := 0, slots := 0, locals := 81 }
theorem b_X1_waterOn : Cond.instanceMethod yX1_waterOn ∈ LW ∧ Cond.selects RX1 yX1_waterOn yX1_waterOn ∈ LW ∧ Cond.initialized RX1 ∈ LW ∧ Cond.code yX1_waterOn cX1_waterOn 2 (some .int) ∈ LW := ⟨q255, q256, q9, q257⟩
set_option maxHeartbeats 4000000 in
set_option maxRecDepth 100000 in
theorem c_X1_waterOn (l : Launch) (D : va_G) (cI cZ cL : ClassId) {n k : Nat} (ob h : Nat) (a : Nat → Nat) (h2 : Nat) (a2 : Nat → Nat) (σ τ : Sg) (hst : Shp n k σ) (j : Nat) (hj : j < n) : MX l yX1_waterOn cX1_waterOn 2 (some .int) rmX1_waterOn D (tZ cI cZ cL) [.ref ob, .int (nI j)] ((oC ob h h2) ++ ((mC cI cZ h a σ) ++ (mC cI cZ h2 a2 τ))) (fun ρ => (oC ob h h2) ++ ((mC cI cZ h a σ) ++ (mC cI cZ h2 a2 ρ))) (some (.int (σ 2 j))) := by
  refine MX.of (by decide) (Nat.le_of_ble_eq_true rfl) ?_
  intro p e s m args below meth c A ls Q hx hb hml hr hts hown hlocks hA hP hD hK hS hl hQ hE
  have hown : s.vm.findClass RX1 = some m.cls := hown
  have hn10 := hst.1
  have hk16 := hst.2.1
  have hl : lv_has ls 2 [(0, .ref ob), (1, .int (nI j))] := hl
  refine lv_aload_n hx hb dX1_waterOn_0 rfl (lv_at hl 0 rfl) ?_
  refine lv_iload_n hx hb dX1_waterOn_1 rfl (lv_at hl 1 rfl) ?_
  refine MC.callV (C := RX1) (T := TX1) (N := 2) (As := [.int (nI j)]) (rest := []) (wB := (oC ob h h2) ++ ((mC cI cZ h a σ) ++ (mC cI cZ h2 a2 τ))) (c_X1_requireField_ok l D cI cZ cL ob h a h2 a2 σ τ (nI j) (hasF_0 hst hj)) ⟨hx, hb, hml, hown, hts⟩ q258 b_X1_requireField (n := 1) (by decide +kernel) ⟨Nat.le_of_ble_eq_true rfl, Nat.le_of_ble_eq_true rfl⟩ hK hP hD hS hA (sp0 _) (sp0 _) (ci := 1) rfl (q0 := 0) rfl rfl hl.1 rfl (Nat.le_of_ble_eq_true rfl) dX1_waterOn_2 ⟨Nat.le_of_ble_eq_true rfl, Nat.le_of_ble_eq_true rfl⟩ (fun H locs hP hD hS => ?_)
  refine lv_aload_n hx hb dX1_waterOn_5 rfl (lv_at hl 0 rfl) ?_
  refine x_get (C := RX1) (T := TX1) (N := 2) hx hb hts in_wsX10 hown hK hP 0 rfl rfl 0 (by decide) q98 (v := .ref h) rfl dX1_waterOn_6 ?_
  refine x_getN (C := RX0) (T := TX0) (N := 16) hx hb hts in_wsX00 hown hK hP 1 rfl rfl 2 (by decide) (hE.w 2 rfl) (v := .ref (a 2)) rfl dX1_waterOn_9 ?_
  refine lv_iload_n hx hb dX1_waterOn_12 rfl (lv_at hl 1 rfl) ?_
  refine x_ild hx hb hK hP 4 0 rfl rfl j (rfl) (by omega) (by decide) (v := σ 2 j) rfl dX1_waterOn_13 ?_
  subst hQ
  exact xri τ hx hb hr hlocks hK hP hD hS dX1_waterOn_14 (rfl) (rfl)

abbrev rmX1_wetFor : Room := { frames := 2, cells := 0, slots := 0, locals := 81 }
theorem b_X1_wetFor : Cond.instanceMethod yX1_wetFor ∈ LW ∧ Cond.selects RX1 yX1_wetFor yX1_wetFor ∈ LW ∧ Cond.initialized RX1 ∈ LW ∧ Cond.code yX1_wetFor cX1_wetFor 2 (some .int) ∈ LW := ⟨q288, q289, q9, q290⟩
set_option maxHeartbeats 4000000 in
set_option maxRecDepth 100000 in
theorem c_X1_wetFor (l : Launch) (D : va_G) (cI cZ cL : ClassId) {n k : Nat} (ob h : Nat) (a : Nat → Nat) (h2 : Nat) (a2 : Nat → Nat) (σ τ : Sg) (hst : Shp n k σ) (j : Nat) (hj : j < n) : MX l yX1_wetFor cX1_wetFor 2 (some .int) rmX1_wetFor D (tZ cI cZ cL) [.ref ob, .int (nI j)] ((oC ob h h2) ++ ((mC cI cZ h a σ) ++ (mC cI cZ h2 a2 τ))) (fun ρ => (oC ob h h2) ++ ((mC cI cZ h a σ) ++ (mC cI cZ h2 a2 ρ))) (some (.int (σ 3 j))) := by
  refine MX.of (by decide) (Nat.le_of_ble_eq_true rfl) ?_
  intro p e s m args below meth c A ls Q hx hb hml hr hts hown hlocks hA hP hD hK hS hl hQ hE
  have hown : s.vm.findClass RX1 = some m.cls := hown
  have hn10 := hst.1
  have hk16 := hst.2.1
  have hl : lv_has ls 2 [(0, .ref ob), (1, .int (nI j))] := hl
  refine lv_aload_n hx hb dX1_wetFor_0 rfl (lv_at hl 0 rfl) ?_
  refine lv_iload_n hx hb dX1_wetFor_1 rfl (lv_at hl 1 rfl) ?_
  refine MC.callV (C := RX1) (T := TX1) (N := 2) (As := [.int (nI j)]) (rest := []) (wB := (oC ob h h2) ++ ((mC cI cZ h a σ) ++ (mC cI cZ h2 a2 τ))) (c_X1_requireField_ok l D cI cZ cL ob h a h2 a2 σ τ (nI j) (hasF_0 hst hj)) ⟨hx, hb, hml, hown, hts⟩ q258 b_X1_requireField (n := 1) (by decide +kernel) ⟨Nat.le_of_ble_eq_true rfl, Nat.le_of_ble_eq_true rfl⟩ hK hP hD hS hA (sp0 _) (sp0 _) (ci := 1) rfl (q0 := 0) rfl rfl hl.1 rfl (Nat.le_of_ble_eq_true rfl) dX1_wetFor_2 ⟨Nat.le_of_ble_eq_true rfl, Nat.le_of_ble_eq_true rfl⟩ (fun H locs hP hD hS => ?_)
  refine lv_aload_n hx hb dX1_wetFor_5 rfl (lv_at hl 0 rfl) ?_
  refine x_get (C := RX1) (T := TX1) (N := 2) hx hb hts in_wsX10 hown hK hP 0 rfl rfl 0 (by decide) q98 (v := .ref h) rfl dX1_wetFor_6 ?_
  refine x_getN (C := RX0) (T := TX0) (N := 16) hx hb hts in_wsX00 hown hK hP 1 rfl rfl 3 (by decide) (hE.w 7 rfl) (v := .ref (a 3)) rfl dX1_wetFor_9 ?_
  refine lv_iload_n hx hb dX1_wetFor_12 rfl (lv_at hl 1 rfl) ?_
  refine x_ild hx hb hK hP 5 0 rfl rfl j (rfl) (by omega) (by decide) (v := σ 3 j) rfl dX1_wetFor_13 ?_
  subst hQ
  exact xri τ hx hb hr hlocks hK hP hD hS dX1_wetFor_14 (rfl) (rfl)

abbrev rmX1_isRuined : Room := { frames := 2, cells := 0, slots := 0, locals := 81 }
theorem b_X1_isRuined : Cond.instanceMethod yX1_isRuined ∈ LW ∧ Cond.selects RX1 yX1_isRuined yX1_isRuined ∈ LW ∧ Cond.initialized RX1 ∈ LW ∧ Cond.code yX1_isRuined cX1_isRuined 2 (some .boolean) ∈ LW := ⟨q292, q293, q9, q294⟩
set_option maxHeartbeats 4000000 in
set_option maxRecDepth 100000 in
theorem c_X1_isRuined (l : Launch) (D : va_G) (cI cZ cL : ClassId) {n k : Nat} (ob h : Nat) (a : Nat → Nat) (h2 : Nat) (a2 : Nat → Nat) (σ τ : Sg) (hst : Shp n k σ) {B : Nat} (hB : Bnd B σ) (j : Nat) (hj : j < n) : MX l yX1_isRuined cX1_isRuined 2 (some .boolean) rmX1_isRuined D (tZ cI cZ cL) [.ref ob, .int (nI j)] ((oC ob h h2) ++ ((mC cI cZ h a σ) ++ (mC cI cZ h2 a2 τ))) (fun ρ => (oC ob h h2) ++ ((mC cI cZ h a σ) ++ (mC cI cZ h2 a2 ρ))) (some (.int (σ 4 j))) := by
  refine MX.of (by decide) (Nat.le_of_ble_eq_true rfl) ?_
  intro p e s m args below meth c A ls Q hx hb hml hr hts hown hlocks hA hP hD hK hS hl hQ hE
  have hown : s.vm.findClass RX1 = some m.cls := hown
  have hn10 := hst.1
  have hk16 := hst.2.1
  have hl : lv_has ls 2 [(0, .ref ob), (1, .int (nI j))] := hl
  refine lv_aload_n hx hb dX1_isRuined_0 rfl (lv_at hl 0 rfl) ?_
  refine lv_iload_n hx hb dX1_isRuined_1 rfl (lv_at hl 1 rfl) ?_
  refine MC.callV (C := RX1) (T := TX1) (N := 2) (As := [.int (nI j)]) (rest := []) (wB := (oC ob h h2) ++ ((mC cI cZ h a σ) ++ (mC cI cZ h2 a2 τ))) (c_X1_requireField_ok l D cI cZ cL ob h a h2 a2 σ τ (nI j) (hasF_0 hst hj)) ⟨hx, hb, hml, hown, hts⟩ q258 b_X1_requireField (n := 1) (by decide +kernel) ⟨Nat.le_of_ble_eq_true rfl, Nat.le_of_ble_eq_true rfl⟩ hK hP hD hS hA (sp0 _) (sp0 _) (ci := 1) rfl (q0 := 0) rfl rfl hl.1 rfl (Nat.le_of_ble_eq_true rfl) dX1_isRuined_2 ⟨Nat.le_of_ble_eq_true rfl, Nat.le_of_ble_eq_true rfl⟩ (fun H locs hP hD hS => ?_)
  refine lv_aload_n hx hb dX1_isRuined_5 rfl (lv_at hl 0 rfl) ?_
  refine x_get (C := RX1) (T := TX1) (N := 2) hx hb hts in_wsX10 hown hK hP 0 rfl rfl 0 (by decide) q98 (v := .ref h) rfl dX1_isRuined_6 ?_
  refine x_getN (C := RX0) (T := TX0) (N := 16) hx hb hts in_wsX00 hown hK hP 1 rfl rfl 4 (by decide) (hE.w 8 rfl) (v := .ref (a 4)) rfl dX1_isRuined_9 ?_
  refine lv_iload_n hx hb dX1_isRuined_12 rfl (lv_at hl 1 rfl) ?_
  refine x_zld hx hb hK hP 6 1 rfl rfl j (rfl) (by omega) (by decide) (v := σ 4 j) rfl dX1_isRuined_13 ?_
  subst hQ
  exact xrz τ hx hb hr hlocks hK hP hD hS dX1_isRuined_14 (hB.2.2.2.2.1 j (by omega)) (rfl) (rfl)

abbrev rmX1_levelOf : Room := { frames := 2, cells := 0, slots := 0, locals := 81 }
theorem b_X1_levelOf : Cond.instanceMethod yX1_levelOf ∈ LW ∧ Cond.selects RX1 yX1_levelOf yX1_levelOf ∈ LW ∧ Cond.initialized RX1 ∈ LW ∧ Cond.code yX1_levelOf cX1_levelOf 2 (some .int) ∈ LW := ⟨q280, q281, q9, q282⟩
set_option maxHeartbeats 4000000 in
set_option maxRecDepth 100000 in
theorem c_X1_levelOf (l : Launch) (D : va_G) (cI cZ cL : ClassId) {n k : Nat} (ob h : Nat) (a : Nat → Nat) (h2 : Nat) (a2 : Nat → Nat) (σ τ : Sg) (hst : Shp n k σ) (j : Nat) (hj : j < n) : MX l yX1_levelOf cX1_levelOf 2 (some .int) rmX1_levelOf D (tZ cI cZ cL) [.ref ob, .int (nI j)] ((oC ob h h2) ++ ((mC cI cZ h a σ) ++ (mC cI cZ h2 a2 τ))) (fun ρ => (oC ob h h2) ++ ((mC cI cZ h a σ) ++ (mC cI cZ h2 a2 ρ))) (some (.int (σ 0 j + σ 2 j))) := by
  refine MX.of (by decide) (Nat.le_of_ble_eq_true rfl) ?_
  intro p e s m args below meth c A ls Q hx hb hml hr hts hown hlocks hA hP hD hK hS hl hQ hE
  have hown : s.vm.findClass RX1 = some m.cls := hown
  have hn10 := hst.1
  have hk16 := hst.2.1
  have hl : lv_has ls 2 [(0, .ref ob), (1, .int (nI j))] := hl
  refine lv_aload_n hx hb dX1_levelOf_0 rfl (lv_at hl 0 rfl) ?_
  refine lv_iload_n hx hb dX1_levelOf_1 rfl (lv_at hl 1 rfl) ?_
  refine MC.callV (C := RX1) (T := TX1) (N := 2) (As := [.int (nI j)]) (rest := []) (wB := (oC ob h h2) ++ ((mC cI cZ h a σ) ++ (mC cI cZ h2 a2 τ))) (c_X1_requireField_ok l D cI cZ cL ob h a h2 a2 σ τ (nI j) (hasF_0 hst hj)) ⟨hx, hb, hml, hown, hts⟩ q258 b_X1_requireField (n := 1) (by decide +kernel) ⟨Nat.le_of_ble_eq_true rfl, Nat.le_of_ble_eq_true rfl⟩ hK hP hD hS hA (sp0 _) (sp0 _) (ci := 1) rfl (q0 := 0) rfl rfl hl.1 rfl (Nat.le_of_ble_eq_true rfl) dX1_levelOf_2 ⟨Nat.le_of_ble_eq_true rfl, Nat.le_of_ble_eq_true rfl⟩ (fun H locs hP hD hS => ?_)
  refine lv_aload_n hx hb dX1_levelOf_5 rfl (lv_at hl 0 rfl) ?_
  refine x_get (C := RX1) (T := TX1) (N := 2) hx hb hts in_wsX10 hown hK hP 0 rfl rfl 0 (by decide) q98 (v := .ref h) rfl dX1_levelOf_6 ?_
  refine lv_iload_n hx hb dX1_levelOf_9 rfl (lv_at hl 1 rfl) ?_
  refine MC.callV (C := RX0) (T := TX0) (N := 16) (As := [.int (nI j)]) (rest := []) (wB := (oC ob h h2) ++ ((mC cI cZ h a σ) ++ (mC cI cZ h2 a2 τ))) (c_X0_levelAt l D cI cZ cL h a σ hst j hj) ⟨hx, hb, hml, hown, hts⟩ q283 b_X0_levelAt (n := 1) (by decide +kernel) ⟨Nat.le_of_ble_eq_true rfl, Nat.le_of_ble_eq_true rfl⟩ hK hP hD hS hA (sp1 _ _ _) (sp1 _ _ _) (ci := 0) rfl (q0 := 1) rfl rfl hl.1 rfl (Nat.le_of_ble_eq_true rfl) dX1_levelOf_10 ⟨Nat.le_of_ble_eq_true rfl, Nat.le_of_ble_eq_true rfl⟩ (fun H locs hP hD hS => ?_)
  subst hQ
  exact xri τ hx hb hr hlocks hK hP hD hS dX1_levelOf_13 (rfl) (rfl)

abbrev rmX1_isPump : Room := { frames := 2, cells := 0, slots := 0, locals := 81 }
theorem b_X1_isPump : Cond.instanceMethod yX1_isPump ∈ LW ∧ Cond.selects RX1 yX1_isPump yX1_isPump ∈ LW ∧ Cond.initialized RX1 ∈ LW ∧ Cond.code yX1_isPump cX1_isPump 2 (some .boolean) ∈ LW := ⟨q505, q506, q9, q507⟩
set_option maxHeartbeats 4000000 in
set_option maxRecDepth 100000 in
theorem c_X1_isPump (l : Launch) (D : va_G) (cI cZ cL : ClassId) {n k : Nat} (ob h : Nat) (a : Nat → Nat) (h2 : Nat) (a2 : Nat → Nat) (σ τ : Sg) (hst : Shp n k σ) {B : Nat} (hB : Bnd B σ) (j : Nat) (hj : j < k) : MX l yX1_isPump cX1_isPump 2 (some .boolean) rmX1_isPump D (tZ cI cZ cL) [.ref ob, .int (nI j)] ((oC ob h h2) ++ ((mC cI cZ h a σ) ++ (mC cI cZ h2 a2 τ))) (fun ρ => (oC ob h h2) ++ ((mC cI cZ h a σ) ++ (mC cI cZ h2 a2 ρ))) (some (.int (σ 9 j))) := by
  refine MX.of (by decide) (Nat.le_of_ble_eq_true rfl) ?_
  intro p e s m args below meth c A ls Q hx hb hml hr hts hown hlocks hA hP hD hK hS hl hQ hE
  have hown : s.vm.findClass RX1 = some m.cls := hown
  have hn10 := hst.1
  have hk16 := hst.2.1
  have hl : lv_has ls 2 [(0, .ref ob), (1, .int (nI j))] := hl
  refine lv_aload_n hx hb dX1_isPump_0 rfl (lv_at hl 0 rfl) ?_
  refine lv_iload_n hx hb dX1_isPump_1 rfl (lv_at hl 1 rfl) ?_
  refine MC.callV (C := RX1) (T := TX1) (N := 2) (As := [.int (nI j)]) (rest := []) (wB := (oC ob h h2) ++ ((mC cI cZ h a σ) ++ (mC cI cZ h2 a2 τ))) (c_X1_requireDrain_ok l D cI cZ cL ob h a h2 a2 σ τ (nI j) (hasF_1 hst hj)) ⟨hx, hb, hml, hown, hts⟩ q321 b_X1_requireDrain (n := 1) (by decide +kernel) ⟨Nat.le_of_ble_eq_true rfl, Nat.le_of_ble_eq_true rfl⟩ hK hP hD hS hA (sp0 _) (sp0 _) (ci := 1) rfl (q0 := 0) rfl rfl hl.1 rfl (Nat.le_of_ble_eq_true rfl) dX1_isPump_2 ⟨Nat.le_of_ble_eq_true rfl, Nat.le_of_ble_eq_true rfl⟩ (fun H locs hP hD hS => ?_)
  refine lv_aload_n hx hb dX1_isPump_5 rfl (lv_at hl 0 rfl) ?_
  refine x_get (C := RX1) (T := TX1) (N := 2) hx hb hts in_wsX10 hown hK hP 0 rfl rfl 0 (by decide) q98 (v := .ref h) rfl dX1_isPump_6 ?_
  refine x_getN (C := RX0) (T := TX0) (N := 16) hx hb hts in_wsX00 hown hK hP 1 rfl rfl 9 (by decide) (hE.w 11 rfl) (v := .ref (a 9)) rfl dX1_isPump_9 ?_
  refine lv_iload_n hx hb dX1_isPump_12 rfl (lv_at hl 1 rfl) ?_
  refine x_zld hx hb hK hP 11 1 rfl rfl j (rfl) (by omega) (by decide) (v := σ 9 j) rfl dX1_isPump_13 ?_
  subst hQ
  exact xrz τ hx hb hr hlocks hK hP hD hS dX1_isPump_14 (hB.2.2.2.2.2.1 j (by omega)) (rfl) (rfl)

abbrev rmX1_isOpen : Room := { frames := 2, cells := 0, slots := 0, locals := 81 }
theorem b_X1_isOpen : Cond.instanceMethod yX1_isOpen ∈ LW ∧ Cond.selects RX1 yX1_isOpen yX1_isOpen ∈ LW ∧ Cond.initialized RX1 ∈ LW ∧ Cond.code yX1_isOpen cX1_isOpen 2 (some .boolean) ∈ LW := ⟨q318, q319, q9, q320⟩
set_option maxHeartbeats 4000000 in
set_option maxRecDepth 100000 in
theorem c_X1_isOpen (l : Launch) (D : va_G) (cI cZ cL : ClassId) {n k : Nat} (ob h : Nat) (a : Nat → Nat) (h2 : Nat) (a2 : Nat → Nat) (σ τ : Sg) (hst : Shp n k σ) {B : Nat} (hB : Bnd B σ) (j : Nat) (hj : j < k) : MX l yX1_isOpen cX1_isOpen 2 (some .boolean) rmX1_isOpen D (tZ cI cZ cL) [.ref ob, .int (nI j)] ((oC ob h h2) ++ ((mC cI cZ h a σ) ++ (mC cI cZ h2 a2 τ))) (fun ρ => (oC ob h h2) ++ ((mC cI cZ h a σ) ++ (mC cI cZ h2 a2 ρ))) (some (.int (σ 10 j))) := by
  refine MX.of (by decide) (Nat.le_of_ble_eq_true rfl) ?_
  intro p e s m args below meth c A ls Q hx hb hml hr hts hown hlocks hA hP hD hK hS hl hQ hE
  have hown : s.vm.findClass RX1 = some m.cls := hown
  have hn10 := hst.1
  have hk16 := hst.2.1
  have hl : lv_has ls 2 [(0, .ref ob), (1, .int (nI j))] := hl
  refine lv_aload_n hx hb dX1_isOpen_0 rfl (lv_at hl 0 rfl) ?_
  refine lv_iload_n hx hb dX1_isOpen_1 rfl (lv_at hl 1 rfl) ?_
  refine MC.callV (C := RX1) (T := TX1) (N := 2) (As := [.int (nI j)]) (rest := []) (wB := (oC ob h h2) ++ ((mC cI cZ h a σ) ++ (mC cI cZ h2 a2 τ))) (c_X1_requireDrain_ok l D cI cZ cL ob h a h2 a2 σ τ (nI j) (hasF_1 hst hj)) ⟨hx, hb, hml, hown, hts⟩ q321 b_X1_requireDrain (n := 1) (by decide +kernel) ⟨Nat.le_of_ble_eq_true rfl, Nat.le_of_ble_eq_true rfl⟩ hK hP hD hS hA (sp0 _) (sp0 _) (ci := 1) rfl (q0 := 0) rfl rfl hl.1 rfl (Nat.le_of_ble_eq_true rfl) dX1_isOpen_2 ⟨Nat.le_of_ble_eq_true rfl, Nat.le_of_ble_eq_true rfl⟩ (fun H locs hP hD hS => ?_)
  refine lv_aload_n hx hb dX1_isOpen_5 rfl (lv_at hl 0 rfl) ?_
  refine x_get (C := RX1) (T := TX1) (N := 2) hx hb hts in_wsX10 hown hK hP 0 rfl rfl 0 (by decide) q98 (v := .ref h) rfl dX1_isOpen_6 ?_
  refine x_getN (C := RX0) (T := TX0) (N := 16) hx hb hts in_wsX00 hown hK hP 1 rfl rfl 10 (by decide) (hE.w 0 rfl) (v := .ref (a 10)) rfl dX1_isOpen_9 ?_
  refine lv_iload_n hx hb dX1_isOpen_12 rfl (lv_at hl 1 rfl) ?_
  refine x_zld hx hb hK hP 12 1 rfl rfl j (rfl) (by omega) (by decide) (v := σ 10 j) rfl dX1_isOpen_13 ?_
  subst hQ
  exact xrz τ hx hb hr hlocks hK hP hD hS dX1_isOpen_14 (hB.2.2.2.2.2.2 j (by omega)) (rfl) (rfl)

abbrev rmX1_carriedBy : Room := { frames := 2, cells := 0, slots := 0, locals := 81 }
theorem b_X1_carriedBy : Cond.instanceMethod yX1_carriedBy ∈ LW ∧ Cond.selects RX1 yX1_carriedBy yX1_carriedBy ∈ LW ∧ Cond.initialized RX1 ∈ LW ∧ Cond.code yX1_carriedBy cX1_carriedBy 2 (some .int) ∈ LW := ⟨q328, q329, q9, q330⟩
set_option maxHeartbeats 4000000 in
set_option maxRecDepth 100000 in
theorem c_X1_carriedBy (l : Launch) (D : va_G) (cI cZ cL : ClassId) {n k : Nat} (ob h : Nat) (a : Nat → Nat) (h2 : Nat) (a2 : Nat → Nat) (σ τ : Sg) (hst : Shp n k σ) (j : Nat) (hj : j < k) : MX l yX1_carriedBy cX1_carriedBy 2 (some .int) rmX1_carriedBy D (tZ cI cZ cL) [.ref ob, .int (nI j)] ((oC ob h h2) ++ ((mC cI cZ h a σ) ++ (mC cI cZ h2 a2 τ))) (fun ρ => (oC ob h h2) ++ ((mC cI cZ h a σ) ++ (mC cI cZ h2 a2 ρ))) (some (.int (σ 8 j))) := by
  refine MX.of (by decide) (Nat.le_of_ble_eq_true rfl) ?_
  intro p e s m args below meth c A ls Q hx hb hml hr hts hown hlocks hA hP hD hK hS hl hQ hE
  have hown : s.vm.findClass RX1 = some m.cls := hown
  have hn10 := hst.1
  have hk16 := hst.2.1
  have hl : lv_has ls 2 [(0, .ref ob), (1, .int (nI j))] := hl
  refine lv_aload_n hx hb dX1_carriedBy_0 rfl (lv_at hl 0 rfl) ?_
  refine lv_iload_n hx hb dX1_carriedBy_1 rfl (lv_at hl 1 rfl) ?_
  refine MC.callV (C := RX1) (T := TX1) (N := 2) (As := [.int (nI j)]) (rest := []) (wB := (oC ob h h2) ++ ((mC cI cZ h a σ) ++ (mC cI cZ h2 a2 τ))) (c_X1_requireDrain_ok l D cI cZ cL ob h a h2 a2 σ τ (nI j) (hasF_1 hst hj)) ⟨hx, hb, hml, hown, hts⟩ q321 b_X1_requireDrain (n := 1) (by decide +kernel) ⟨Nat.le_of_ble_eq_true rfl, Nat.le_of_ble_eq_true rfl⟩ hK hP hD hS hA (sp0 _) (sp0 _) (ci := 1) rfl (q0 := 0) rfl rfl hl.1 rfl (Nat.le_of_ble_eq_true rfl) dX1_carriedBy_2 ⟨Nat.le_of_ble_eq_true rfl, Nat.le_of_ble_eq_true rfl⟩ (fun H locs hP hD hS => ?_)
  refine lv_aload_n hx hb dX1_carriedBy_5 rfl (lv_at hl 0 rfl) ?_
  refine x_get (C := RX1) (T := TX1) (N := 2) hx hb hts in_wsX10 hown hK hP 0 rfl rfl 0 (by decide) q98 (v := .ref h) rfl dX1_carriedBy_6 ?_
  refine x_getN (C := RX0) (T := TX0) (N := 16) hx hb hts in_wsX00 hown hK hP 1 rfl rfl 8 (by decide) (hE.w 12 rfl) (v := .ref (a 8)) rfl dX1_carriedBy_9 ?_
  refine lv_iload_n hx hb dX1_carriedBy_12 rfl (lv_at hl 1 rfl) ?_
  refine x_ild hx hb hK hP 10 0 rfl rfl j (rfl) (by omega) (by decide) (v := σ 8 j) rfl dX1_carriedBy_13 ?_
  subst hQ
  exact xri τ hx hb hr hlocks hK hP hD hS dX1_carriedBy_14 (rfl) (rfl)

abbrev rmX1_wouldCarry : Room := { frames := 2, cells := 0, slots := 0, locals := 84 }
theorem b_X1_wouldCarry : Cond.instanceMethod yX1_wouldCarry ∈ LW ∧ Cond.selects RX1 yX1_wouldCarry yX1_wouldCarry ∈ LW ∧ Cond.initialized RX1 ∈ LW ∧ Cond.code yX1_wouldCarry cX1_wouldCarry 2 (some .int) ∈ LW := ⟨q332, q333, q9, q334⟩
set_option maxHeartbeats 4000000 in
set_option maxRecDepth 100000 in
theorem c_X1_wouldCarry (l : Launch) (D : va_G) (cI cZ cL : ClassId) {n k : Nat} (ob h : Nat) (a : Nat → Nat) (h2 : Nat) (a2 : Nat → Nat) (σ τ : Sg) (hst : Shp n k σ) (j : Nat) (hj : j < k) : MX l yX1_wouldCarry cX1_wouldCarry 2 (some .int) rmX1_wouldCarry D (tZ cI cZ cL) [.ref ob, .int (nI j)] ((oC ob h h2) ++ ((mC cI cZ h a σ) ++ (mC cI cZ h2 a2 τ))) (fun ρ => (oC ob h h2) ++ ((mC cI cZ h a σ) ++ (mC cI cZ h2 a2 ρ))) (some (.int (ab (flow σ j)))) := by
  refine MX.of (by decide) (Nat.le_of_ble_eq_true rfl) ?_
  intro p e s m args below meth c A ls Q hx hb hml hr hts hown hlocks hA hP hD hK hS hl hQ hE
  have hown : s.vm.findClass RX1 = some m.cls := hown
  have hn10 := hst.1
  have hk16 := hst.2.1
  have hl : lv_has ls 2 [(0, .ref ob), (1, .int (nI j))] := hl
  refine lv_aload_n hx hb dX1_wouldCarry_0 rfl (lv_at hl 0 rfl) ?_
  refine lv_iload_n hx hb dX1_wouldCarry_1 rfl (lv_at hl 1 rfl) ?_
  refine MC.callV (C := RX1) (T := TX1) (N := 2) (As := [.int (nI j)]) (rest := []) (wB := (oC ob h h2) ++ ((mC cI cZ h a σ) ++ (mC cI cZ h2 a2 τ))) (c_X1_requireDrain_ok l D cI cZ cL ob h a h2 a2 σ τ (nI j) (hasF_1 hst hj)) ⟨hx, hb, hml, hown, hts⟩ q321 b_X1_requireDrain (n := 1) (by decide +kernel) ⟨Nat.le_of_ble_eq_true rfl, Nat.le_of_ble_eq_true rfl⟩ hK hP hD hS hA (sp0 _) (sp0 _) (ci := 1) rfl (q0 := 0) rfl rfl hl.1 rfl (Nat.le_of_ble_eq_true rfl) dX1_wouldCarry_2 ⟨Nat.le_of_ble_eq_true rfl, Nat.le_of_ble_eq_true rfl⟩ (fun H locs hP hD hS => ?_)
  refine lv_aload_n hx hb dX1_wouldCarry_5 rfl (lv_at hl 0 rfl) ?_
  refine x_get (C := RX1) (T := TX1) (N := 2) hx hb hts in_wsX10 hown hK hP 0 rfl rfl 0 (by decide) q98 (v := .ref h) rfl dX1_wouldCarry_6 ?_
  refine lv_iload_n hx hb dX1_wouldCarry_9 rfl (lv_at hl 1 rfl) ?_
  refine MC.callV (C := RX0) (T := TX0) (N := 16) (As := [.int (nI j)]) (rest := []) (wB := (oC ob h h2) ++ ((mC cI cZ h a σ) ++ (mC cI cZ h2 a2 τ))) (c_X0_flowNow l D cI cZ cL h a σ hst j hj) ⟨hx, hb, hml, hown, hts⟩ q335 b_X0_flowNow (n := 1) (by decide +kernel) ⟨Nat.le_of_ble_eq_true rfl, Nat.le_of_ble_eq_true rfl⟩ hK hP hD hS hA (sp1 _ _ _) (sp1 _ _ _) (ci := 0) rfl (q0 := 1) rfl rfl hl.1 rfl (Nat.le_of_ble_eq_true rfl) dX1_wouldCarry_10 ⟨Nat.le_of_ble_eq_true rfl, Nat.le_of_ble_eq_true rfl⟩ (fun H locs hP hD hS => ?_)
  refine va_mabs hx hb (by rw [hml]; exact hl.1.symm) hown (hts _ q336) (hts _ q216) (hts _ q18) (hts _ q217) (by decide) (Nat.le_of_ble_eq_true rfl) (Nat.le_of_ble_eq_true rfl) (Nat.le_of_ble_eq_true rfl) dX1_wouldCarry_13 ?_
  refine x_top (show _ = ab (flow σ j) from rfl) ?_
  subst hQ
  exact xri τ hx hb hr hlocks hK hP hD hS dX1_wouldCarry_16 (rfl) (rfl)

abbrev rmX1_turn : Room := { frames := 2, cells := 0, slots := 0, locals := 81 }
theorem b_X1_turn : Cond.instanceMethod yX1_turn ∈ LW ∧ Cond.selects RX1 yX1_turn yX1_turn ∈ LW ∧ Cond.initialized RX1 ∈ LW ∧ Cond.code yX1_turn cX1_turn 2 (some .boolean) ∈ LW := ⟨q584, q585, q9, q586⟩
set_option maxHeartbeats 4000000 in
set_option maxRecDepth 100000 in
theorem c_X1_turn (l : Launch) (D : va_G) (cI cZ cL : ClassId) {n k : Nat} (ob h : Nat) (a : Nat → Nat) (h2 : Nat) (a2 : Nat → Nat) (σ τ : Sg) (hst : Shp n k σ) {B : Nat} (hB : Bnd B σ) (j : Nat) (hj : j < k) : MX l yX1_turn cX1_turn 2 (some .boolean) rmX1_turn D (tZ cI cZ cL) [.ref ob, .int (nI j)] ((oC ob h h2) ++ ((mC cI cZ h a σ) ++ (mC cI cZ h2 a2 τ))) (fun ρ => (oC ob h h2) ++ ((mC cI cZ h a (turnS σ j)) ++ (mC cI cZ h2 a2 ρ))) (some (.int (turnS σ j 10 j))) := by
  refine MX.of (by decide) (Nat.le_of_ble_eq_true rfl) ?_
  intro p e s m args below meth c A ls Q hx hb hml hr hts hown hlocks hA hP hD hK hS hl hQ hE
  have hown : s.vm.findClass RX1 = some m.cls := hown
  have hn10 := hst.1
  have hk16 := hst.2.1
  have hl : lv_has ls 2 [(0, .ref ob), (1, .int (nI j))] := hl
  refine lv_aload_n hx hb dX1_turn_0 rfl (lv_at hl 0 rfl) ?_
  refine lv_iload_n hx hb dX1_turn_1 rfl (lv_at hl 1 rfl) ?_
  refine MC.callV (C := RX1) (T := TX1) (N := 2) (As := [.int (nI j)]) (rest := []) (wB := (oC ob h h2) ++ ((mC cI cZ h a σ) ++ (mC cI cZ h2 a2 τ))) (c_X1_requireDrain_ok l D cI cZ cL ob h a h2 a2 σ τ (nI j) (hasF_1 hst hj)) ⟨hx, hb, hml, hown, hts⟩ q321 b_X1_requireDrain (n := 1) (by decide +kernel) ⟨Nat.le_of_ble_eq_true rfl, Nat.le_of_ble_eq_true rfl⟩ hK hP hD hS hA (sp0 _) (sp0 _) (ci := 1) rfl (q0 := 0) rfl rfl hl.1 rfl (Nat.le_of_ble_eq_true rfl) dX1_turn_2 ⟨Nat.le_of_ble_eq_true rfl, Nat.le_of_ble_eq_true rfl⟩ (fun H locs hP hD hS => ?_)
  refine lv_aload_n hx hb dX1_turn_5 rfl (lv_at hl 0 rfl) ?_
  refine x_get (C := RX1) (T := TX1) (N := 2) hx hb hts in_wsX10 hown hK hP 0 rfl rfl 0 (by decide) q98 (v := .ref h) rfl dX1_turn_6 ?_
  refine lv_iload_n hx hb dX1_turn_9 rfl (lv_at hl 1 rfl) ?_
  refine MC.callV (C := RX0) (T := TX0) (N := 16) (As := [.int (nI j)]) (rest := []) (wB := (oC ob h h2) ++ ((mC cI cZ h a (turnS σ j)) ++ (mC cI cZ h2 a2 τ))) (c_X0_turnDrain l D cI cZ cL h a σ hst j hj) ⟨hx, hb, hml, hown, hts⟩ q358 b_X0_turnDrain (n := 1) (by decide +kernel) ⟨Nat.le_of_ble_eq_true rfl, Nat.le_of_ble_eq_true rfl⟩ hK hP hD hS hA (sp1 _ _ _) (sp1 _ _ _) (ci := 0) rfl (q0 := 1) rfl rfl hl.1 rfl (Nat.le_of_ble_eq_true rfl) dX1_turn_10 ⟨Nat.le_of_ble_eq_true rfl, Nat.le_of_ble_eq_true rfl⟩ (fun H locs hP hD hS => ?_)
  refine lv_aload_n hx hb dX1_turn_13 rfl (lv_at hl 0 rfl) ?_
  refine x_get (C := RX1) (T := TX1) (N := 2) hx hb hts in_wsX10 hown hK hP 0 rfl rfl 0 (by decide) q98 (v := .ref h) rfl dX1_turn_14 ?_
  refine x_getN (C := RX0) (T := TX0) (N := 16) hx hb hts in_wsX00 hown hK hP 1 rfl rfl 10 (by decide) (hE.w 0 rfl) (v := .ref (a 10)) rfl dX1_turn_17 ?_
  refine lv_iload_n hx hb dX1_turn_20 rfl (lv_at hl 1 rfl) ?_
  refine x_zld hx hb hK hP 12 1 rfl rfl j (rfl) (by omega) (by decide) (v := (turnS σ j) 10 j) rfl dX1_turn_21 ?_
  subst hQ
  exact xrz τ hx hb hr hlocks hK hP hD hS dX1_turn_22 ((hB.tu j).2.2.2.2.2.2 j (by omega)) (rfl) (rfl)

abbrev rmX1_setRain : Room := { frames := 2, cells := 0, slots := 0, locals := 82 }
theorem b_X1_setRain : Cond.instanceMethod yX1_setRain ∈ LW ∧ Cond.selects RX1 yX1_setRain yX1_setRain ∈ LW ∧ Cond.initialized RX1 ∈ LW ∧ Cond.code yX1_setRain cX1_setRain 3 (some .int) ∈ LW := ⟨q588, q589, q9, q590⟩
set_option maxHeartbeats 4000000 in
set_option maxRecDepth 100000 in
theorem c_X1_setRain (l : Launch) (D : va_G) (cI cZ cL : ClassId) (ob h : Nat) (a : Nat → Nat) (h2 : Nat) (a2 : Nat → Nat) (σ τ : Sg) (x : Int32) (hr0 : ¬ inR x 0 9 = 0) : MX l yX1_setRain cX1_setRain 3 (some .int) rmX1_setRain D (tZ cI cZ cL) [.ref ob, .int x] ((oC ob h h2) ++ ((mC cI cZ h a σ) ++ (mC cI cZ h2 a2 τ))) (fun ρ => (oC ob h h2) ++ ((mC cI cZ h a (sc σ 2 x)) ++ (mC cI cZ h2 a2 ρ))) (some (.int (σ 11 2))) := by
  refine MX.of (by decide) (Nat.le_of_ble_eq_true rfl) ?_
  intro p e s m args below meth c A ls Q hx hb hml hr hts hown hlocks hA hP hD hK hS hl hQ hE
  have hown : s.vm.findClass RX1 = some m.cls := hown
  have hl : lv_has ls 3 [(0, .ref ob), (1, .int x)] := hl
  refine lv_iload_n hx hb dX1_setRain_0 rfl (lv_at hl 1 rfl) ?_
  refine lv_iconst (v := 0) hx hb dX1_setRain_1 (by decide) ?_
  refine lv_bipush (v := 9) hx hb dX1_setRain_2 (by decide) ?_
  refine MC.callS (As := [.int x, .int 0, .int 9]) (rest := []) (wB := (oC ob h h2) ++ ((mC cI cZ h a σ) ++ (mC cI cZ h2 a2 τ))) (c_X1_requireWithin_ok l D cI cZ cL x 0 9 (inR_1 hr0).1 (inR_1 hr0).2) ⟨hx, hb, hml, hown, hts⟩ q109 b_X1_requireWithin (n := 3) (by decide +kernel) ⟨Nat.le_of_ble_eq_true rfl, Nat.le_of_ble_eq_true rfl⟩ hK hP hD hS hA (spE _) (spE _) rfl hl.1 rfl (Nat.le_of_ble_eq_true rfl) dX1_setRain_4 ⟨Nat.le_of_ble_eq_true rfl, Nat.le_of_ble_eq_true rfl⟩ (fun H locs hP hD hS => ?_)
  refine lv_aload_n hx hb dX1_setRain_7 rfl (lv_at hl 0 rfl) ?_
  refine x_get (C := RX1) (T := TX1) (N := 2) hx hb hts in_wsX10 hown hK hP 0 rfl rfl 0 (by decide) q98 (v := .ref h) rfl dX1_setRain_8 ?_
  refine x_getN (C := RX0) (T := TX0) (N := 16) hx hb hts in_wsX00 hown hK hP 1 rfl rfl 13 (by decide) (hE.w 1 rfl) (v := .int (σ 11 2)) rfl dX1_setRain_11 ?_
  refine lv_istore_n (lv' := [(2, .int (σ 11 2)), (0, .ref ob), (1, .int x)]) hx hb dX1_setRain_14 rfl hl (by decide) rfl (fun ls hl => ?_)
  refine lv_aload_n hx hb dX1_setRain_15 rfl (lv_at hl 1 rfl) ?_
  refine x_get (C := RX1) (T := TX1) (N := 2) hx hb hts in_wsX10 hown hK hP 0 rfl rfl 0 (by decide) q98 (v := .ref h) rfl dX1_setRain_16 ?_
  refine lv_iload_n hx hb dX1_setRain_19 rfl (lv_at hl 2 rfl) ?_
  refine x_putN (C := RX0) (T := TX0) (N := 16) (ws2 := (oC ob h h2) ++ ((mC cI cZ h a (sc σ 2 x)) ++ (mC cI cZ h2 a2 τ))) hx hb hts in_wsX00 tyX0_ok nmX0 hown hK hP hD hS 1 rfl rfl 13 (by decide) (hE.w 1 rfl) rfl (by decide +kernel) (Nat.le_of_ble_eq_true rfl) rfl dX1_setRain_20 (fun H locs hP hD hS => ?_)
  refine lv_iload_n hx hb dX1_setRain_23 rfl (lv_at hl 0 rfl) ?_
  subst hQ
  exact xri τ hx hb hr hlocks hK hP hD hS dX1_setRain_24 (rfl) (rfl)

abbrev rmX1_flood : Room := { frames := 2, cells := 0, slots := 0, locals := 82 }
theorem b_X1_flood : Cond.instanceMethod yX1_flood ∈ LW ∧ Cond.selects RX1 yX1_flood yX1_flood ∈ LW ∧ Cond.initialized RX1 ∈ LW ∧ Cond.code yX1_flood cX1_flood 3 (some .int) ∈ LW := ⟨q592, q593, q9, q594⟩
set_option maxHeartbeats 4000000 in
set_option maxRecDepth 100000 in
theorem c_X1_flood (l : Launch) (D : va_G) (cI cZ cL : ClassId) {n k : Nat} (ob h : Nat) (a : Nat → Nat) (h2 : Nat) (a2 : Nat → Nat) (σ τ : Sg) (hst : Shp n k σ) (j : Nat) (hj : j < n) (y : Int32) (hr0 : ¬ inR y 1 50 = 0) : MX l yX1_flood cX1_flood 3 (some .int) rmX1_flood D (tZ cI cZ cL) [.ref ob, .int (nI j), .int y] ((oC ob h h2) ++ ((mC cI cZ h a σ) ++ (mC cI cZ h2 a2 τ))) (fun ρ => (oC ob h h2) ++ ((mC cI cZ h a (addW σ j y)) ++ (mC cI cZ h2 a2 ρ))) (some (.int (addW σ j y 2 j))) := by
  refine MX.of (by decide) (Nat.le_of_ble_eq_true rfl) ?_
  intro p e s m args below meth c A ls Q hx hb hml hr hts hown hlocks hA hP hD hK hS hl hQ hE
  have hown : s.vm.findClass RX1 = some m.cls := hown
  have hn10 := hst.1
  have hk16 := hst.2.1
  have hl : lv_has ls 3 [(0, .ref ob), (1, .int (nI j)), (2, .int y)] := hl
  refine lv_aload_n hx hb dX1_flood_0 rfl (lv_at hl 0 rfl) ?_
  refine lv_iload_n hx hb dX1_flood_1 rfl (lv_at hl 1 rfl) ?_
  refine MC.callV (C := RX1) (T := TX1) (N := 2) (As := [.int (nI j)]) (rest := []) (wB := (oC ob h h2) ++ ((mC cI cZ h a σ) ++ (mC cI cZ h2 a2 τ))) (c_X1_requireField_ok l D cI cZ cL ob h a h2 a2 σ τ (nI j) (hasF_0 hst hj)) ⟨hx, hb, hml, hown, hts⟩ q258 b_X1_requireField (n := 1) (by decide +kernel) ⟨Nat.le_of_ble_eq_true rfl, Nat.le_of_ble_eq_true rfl⟩ hK hP hD hS hA (sp0 _) (sp0 _) (ci := 1) rfl (q0 := 0) rfl rfl hl.1 rfl (Nat.le_of_ble_eq_true rfl) dX1_flood_2 ⟨Nat.le_of_ble_eq_true rfl, Nat.le_of_ble_eq_true rfl⟩ (fun H locs hP hD hS => ?_)
  refine lv_iload_n hx hb dX1_flood_5 rfl (lv_at hl 2 rfl) ?_
  refine lv_iconst (v := 1) hx hb dX1_flood_6 (by decide) ?_
  refine lv_bipush (v := 50) hx hb dX1_flood_7 (by decide) ?_
  refine MC.callS (As := [.int y, .int 1, .int 50]) (rest := []) (wB := (oC ob h h2) ++ ((mC cI cZ h a σ) ++ (mC cI cZ h2 a2 τ))) (c_X1_requireWithin_ok l D cI cZ cL y 1 50 (inR_1 hr0).1 (inR_1 hr0).2) ⟨hx, hb, hml, hown, hts⟩ q109 b_X1_requireWithin (n := 3) (by decide +kernel) ⟨Nat.le_of_ble_eq_true rfl, Nat.le_of_ble_eq_true rfl⟩ hK hP hD hS hA (spE _) (spE _) rfl hl.1 rfl (Nat.le_of_ble_eq_true rfl) dX1_flood_9 ⟨Nat.le_of_ble_eq_true rfl, Nat.le_of_ble_eq_true rfl⟩ (fun H locs hP hD hS => ?_)
  refine lv_aload_n hx hb dX1_flood_12 rfl (lv_at hl 0 rfl) ?_
  refine x_get (C := RX1) (T := TX1) (N := 2) hx hb hts in_wsX10 hown hK hP 0 rfl rfl 0 (by decide) q98 (v := .ref h) rfl dX1_flood_13 ?_
  refine lv_iload_n hx hb dX1_flood_16 rfl (lv_at hl 1 rfl) ?_
  refine lv_iload_n hx hb dX1_flood_17 rfl (lv_at hl 2 rfl) ?_
  refine MC.callV (C := RX0) (T := TX0) (N := 16) (As := [.int (nI j), .int y]) (rest := []) (wB := (oC ob h h2) ++ ((mC cI cZ h a (addW σ j y)) ++ (mC cI cZ h2 a2 τ))) (c_X0_letWaterIn l D cI cZ cL h a σ hst j hj y) ⟨hx, hb, hml, hown, hts⟩ q366 b_X0_letWaterIn (n := 2) (by decide +kernel) ⟨Nat.le_of_ble_eq_true rfl, Nat.le_of_ble_eq_true rfl⟩ hK hP hD hS hA (sp1 _ _ _) (sp1 _ _ _) (ci := 0) rfl (q0 := 1) rfl rfl hl.1 rfl (Nat.le_of_ble_eq_true rfl) dX1_flood_18 ⟨Nat.le_of_ble_eq_true rfl, Nat.le_of_ble_eq_true rfl⟩ (fun H locs hP hD hS => ?_)
  refine lv_aload_n hx hb dX1_flood_21 rfl (lv_at hl 0 rfl) ?_
  refine x_get (C := RX1) (T := TX1) (N := 2) hx hb hts in_wsX10 hown hK hP 0 rfl rfl 0 (by decide) q98 (v := .ref h) rfl dX1_flood_22 ?_
  refine x_getN (C := RX0) (T := TX0) (N := 16) hx hb hts in_wsX00 hown hK hP 1 rfl rfl 2 (by decide) (hE.w 2 rfl) (v := .ref (a 2)) rfl dX1_flood_25 ?_
  refine lv_iload_n hx hb dX1_flood_28 rfl (lv_at hl 1 rfl) ?_
  refine x_ild hx hb hK hP 4 0 rfl rfl j (rfl) (by omega) (by decide) (v := (addW σ j y) 2 j) rfl dX1_flood_29 ?_
  subst hQ
  exact xri τ hx hb hr hlocks hK hP hD hS dX1_flood_30 (rfl) (rfl)

abbrev rmX1_pass : Room := { frames := 5, cells := 0, slots := 0, locals := 127 }
theorem b_X1_pass : Cond.instanceMethod yX1_pass ∈ LW ∧ Cond.selects RX1 yX1_pass yX1_pass ∈ LW ∧ Cond.initialized RX1 ∈ LW ∧ Cond.code yX1_pass cX1_pass 3 (some .int) ∈ LW := ⟨q106, q107, q9, q108⟩
set_option maxHeartbeats 4000000 in
set_option maxRecDepth 100000 in
theorem c_X1_pass (l : Launch) (D : va_G) (cI cZ cL : ClassId) {n k : Nat} (ob h : Nat) (a : Nat → Nat) (h2 : Nat) (a2 : Nat → Nat) (σ τ : Sg) (hst : Shp n k σ) (t : Nat) (ht1 : 1 ≤ t) (ht : t ≤ 48) : MX l yX1_pass cX1_pass 3 (some .int) rmX1_pass D (tZ cI cZ cL) [.ref ob, .int (nI t)] ((oC ob h h2) ++ ((mC cI cZ h a σ) ++ (mC cI cZ h2 a2 τ))) (fun ρ => (oC ob h h2) ++ ((mC cI cZ h a (hours t σ)) ++ (mC cI cZ h2 a2 ρ))) (some (.int (ruinN (hours t σ) - ruinN σ))) := by
  refine MX.of (by decide) (Nat.le_of_ble_eq_true rfl) ?_
  intro p e s m args below meth c A ls Q hx hb hml hr hts hown hlocks hA hP hD hK hS hl hQ hE
  have hown : s.vm.findClass RX1 = some m.cls := hown
  have hn10 := hst.1
  have hk16 := hst.2.1
  have hl : lv_has ls 3 [(0, .ref ob), (1, .int (nI t))] := hl
  refine lv_iload_n hx hb dX1_pass_0 rfl (lv_at hl 1 rfl) ?_
  refine lv_iconst (v := 1) hx hb dX1_pass_1 (by decide) ?_
  refine lv_bipush (v := 48) hx hb dX1_pass_2 (by decide) ?_
  refine MC.callS (As := [.int (nI t), .int 1, .int 48]) (rest := []) (wB := (oC ob h h2) ++ ((mC cI cZ h a σ) ++ (mC cI cZ h2 a2 τ))) (c_X1_requireWithin_ok l D cI cZ cL (nI t) 1 48 (inR_1 (inR_t 1 48 (by decide) ht1 ht)).1 (inR_1 (inR_t 1 48 (by decide) ht1 ht)).2) ⟨hx, hb, hml, hown, hts⟩ q109 b_X1_requireWithin (n := 3) (by decide +kernel) ⟨Nat.le_of_ble_eq_true rfl, Nat.le_of_ble_eq_true rfl⟩ hK hP hD hS hA (spE _) (spE _) rfl hl.1 rfl (Nat.le_of_ble_eq_true rfl) dX1_pass_4 ⟨Nat.le_of_ble_eq_true rfl, Nat.le_of_ble_eq_true rfl⟩ (fun H locs hP hD hS => ?_)
  refine lv_aload_n hx hb dX1_pass_7 rfl (lv_at hl 0 rfl) ?_
  refine x_get (C := RX1) (T := TX1) (N := 2) hx hb hts in_wsX10 hown hK hP 0 rfl rfl 0 (by decide) q98 (v := .ref h) rfl dX1_pass_8 ?_
  refine MC.callV (C := RX0) (T := TX0) (N := 16) (As := []) (rest := []) (wB := (oC ob h h2) ++ ((mC cI cZ h a σ) ++ (mC cI cZ h2 a2 τ))) (c_X0_countRuined l D cI cZ cL h a σ hst) ⟨hx, hb, hml, hown, hts⟩ q180 b_X0_countRuined (n := 0) (by decide +kernel) ⟨Nat.le_of_ble_eq_true rfl, Nat.le_of_ble_eq_true rfl⟩ hK hP hD hS hA (sp1 _ _ _) (sp1 _ _ _) (ci := 0) rfl (q0 := 1) rfl rfl hl.1 rfl (Nat.le_of_ble_eq_true rfl) dX1_pass_11 ⟨Nat.le_of_ble_eq_true rfl, Nat.le_of_ble_eq_true rfl⟩ (fun H locs hP hD hS => ?_)
  refine lv_istore_n (lv' := [(2, .int (ruinN σ)), (0, .ref ob), (1, .int (nI t))]) hx hb dX1_pass_14 rfl hl (by decide) rfl (fun ls hl => ?_)
  refine lv_aload_n hx hb dX1_pass_15 rfl (lv_at hl 1 rfl) ?_
  refine x_get (C := RX1) (T := TX1) (N := 2) hx hb hts in_wsX10 hown hK hP 0 rfl rfl 0 (by decide) q98 (v := .ref h) rfl dX1_pass_16 ?_
  refine lv_iload_n hx hb dX1_pass_19 rfl (lv_at hl 2 rfl) ?_
  refine MC.callV (C := RX0) (T := TX0) (N := 16) (As := [.int (nI t)]) (rest := []) (wB := (oC ob h h2) ++ ((mC cI cZ h a (hours t σ)) ++ (mC cI cZ h2 a2 τ))) (c_X0_passHours l D cI cZ cL h a σ hst t (by omega)) ⟨hx, hb, hml, hown, hts⟩ q184 b_X0_passHours (n := 1) (by decide +kernel) ⟨Nat.le_of_ble_eq_true rfl, Nat.le_of_ble_eq_true rfl⟩ hK hP hD hS hA (sp1 _ _ _) (sp1 _ _ _) (ci := 0) rfl (q0 := 1) rfl rfl hl.1 rfl (Nat.le_of_ble_eq_true rfl) dX1_pass_20 ⟨Nat.le_of_ble_eq_true rfl, Nat.le_of_ble_eq_true rfl⟩ (fun H locs hP hD hS => ?_)
  refine lv_aload_n hx hb dX1_pass_23 rfl (lv_at hl 1 rfl) ?_
  refine x_get (C := RX1) (T := TX1) (N := 2) hx hb hts in_wsX10 hown hK hP 0 rfl rfl 0 (by decide) q98 (v := .ref h) rfl dX1_pass_24 ?_
  refine MC.callV (C := RX0) (T := TX0) (N := 16) (As := []) (rest := []) (wB := (oC ob h h2) ++ ((mC cI cZ h a (hours t σ)) ++ (mC cI cZ h2 a2 τ))) (c_X0_countRuined l D cI cZ cL h a (hours t σ) (hst.hrs t)) ⟨hx, hb, hml, hown, hts⟩ q180 b_X0_countRuined (n := 0) (by decide +kernel) ⟨Nat.le_of_ble_eq_true rfl, Nat.le_of_ble_eq_true rfl⟩ hK hP hD hS hA (sp1 _ _ _) (sp1 _ _ _) (ci := 0) rfl (q0 := 1) rfl rfl hl.1 rfl (Nat.le_of_ble_eq_true rfl) dX1_pass_27 ⟨Nat.le_of_ble_eq_true rfl, Nat.le_of_ble_eq_true rfl⟩ (fun H locs hP hD hS => ?_)
  refine lv_iload_n hx hb dX1_pass_30 rfl (lv_at hl 0 rfl) ?_
  refine lv_isub hx hb dX1_pass_31 ?_
  subst hQ
  exact xri τ hx hb hr hlocks hK hP hD hS dX1_pass_32 (rfl) (rfl)

abbrev rmX1_lossIn : Room := { frames := 5, cells := 0, slots := 0, locals := 127 }
theorem b_X1_lossIn : Cond.instanceMethod yX1_lossIn ∈ LW ∧ Cond.selects RX1 yX1_lossIn yX1_lossIn ∈ LW ∧ Cond.initialized RX1 ∈ LW ∧ Cond.code yX1_lossIn cX1_lossIn 2 (some .int) ∈ LW := ⟨q347, q348, q9, q349⟩
set_option maxHeartbeats 4000000 in
set_option maxRecDepth 100000 in
theorem c_X1_lossIn (l : Launch) (D : va_G) (cI cZ cL : ClassId) {n k : Nat} (ob h : Nat) (a : Nat → Nat) (h2 : Nat) (a2 : Nat → Nat) (σ τ : Sg) (hst : Shp n k σ) {B : Nat} (hB : Bnd B σ) (t : Nat) (ht1 : 1 ≤ t) (ht : t ≤ 48) : MX l yX1_lossIn cX1_lossIn 2 (some .int) rmX1_lossIn D (tZ cI cZ cL) [.ref ob, .int (nI t)] ((oC ob h h2) ++ ((mC cI cZ h a σ) ++ (mC cI cZ h2 a2 τ))) (fun ρ => (oC ob h h2) ++ ((mC cI cZ h a σ) ++ (mC cI cZ h2 a2 ρ))) (some (.int (lossH t σ))) := by
  refine MX.of (by decide) (Nat.le_of_ble_eq_true rfl) ?_
  intro p e s m args below meth c A ls Q hx hb hml hr hts hown hlocks hA hP hD hK hS hl hQ hE
  have hown : s.vm.findClass RX1 = some m.cls := hown
  have hn10 := hst.1
  have hk16 := hst.2.1
  have hl : lv_has ls 2 [(0, .ref ob), (1, .int (nI t))] := hl
  refine lv_iload_n hx hb dX1_lossIn_0 rfl (lv_at hl 1 rfl) ?_
  refine lv_iconst (v := 1) hx hb dX1_lossIn_1 (by decide) ?_
  refine lv_bipush (v := 48) hx hb dX1_lossIn_2 (by decide) ?_
  refine MC.callS (As := [.int (nI t), .int 1, .int 48]) (rest := []) (wB := (oC ob h h2) ++ ((mC cI cZ h a σ) ++ (mC cI cZ h2 a2 τ))) (c_X1_requireWithin_ok l D cI cZ cL (nI t) 1 48 (inR_1 (inR_t 1 48 (by decide) ht1 ht)).1 (inR_1 (inR_t 1 48 (by decide) ht1 ht)).2) ⟨hx, hb, hml, hown, hts⟩ q109 b_X1_requireWithin (n := 3) (by decide +kernel) ⟨Nat.le_of_ble_eq_true rfl, Nat.le_of_ble_eq_true rfl⟩ hK hP hD hS hA (spE _) (spE _) rfl hl.1 rfl (Nat.le_of_ble_eq_true rfl) dX1_lossIn_4 ⟨Nat.le_of_ble_eq_true rfl, Nat.le_of_ble_eq_true rfl⟩ (fun H locs hP hD hS => ?_)
  refine lv_aload_n hx hb dX1_lossIn_7 rfl (lv_at hl 0 rfl) ?_
  refine x_get (C := RX1) (T := TX1) (N := 2) hx hb hts in_wsX10 hown hK hP 0 rfl rfl 1 (by decide) q99 (v := .ref h2) rfl dX1_lossIn_8 ?_
  refine lv_aload_n hx hb dX1_lossIn_11 rfl (lv_at hl 0 rfl) ?_
  refine x_get (C := RX1) (T := TX1) (N := 2) hx hb hts in_wsX10 hown hK hP 0 rfl rfl 0 (by decide) q98 (v := .ref h) rfl dX1_lossIn_12 ?_
  refine MC.callV (C := RX0) (T := TX0) (N := 16) (As := [.ref h]) (rest := []) (wB := (oC ob h h2) ++ ((mC cI cZ h a σ) ++ (mC cI cZ h2 a2 σ))) (c_X0_becomeLike l D cI cZ cL h a σ h2 a2 τ hB) ⟨hx, hb, hml, hown, hts⟩ q341 b_X0_becomeLike (n := 1) (by decide +kernel) ⟨Nat.le_of_ble_eq_true rfl, Nat.le_of_ble_eq_true rfl⟩ hK hP hD hS hA (sp3 _ _ _) (sp3 _ _ _) (ci := 0) rfl (q0 := 13) rfl rfl hl.1 rfl (Nat.le_of_ble_eq_true rfl) dX1_lossIn_15 ⟨Nat.le_of_ble_eq_true rfl, Nat.le_of_ble_eq_true rfl⟩ (fun H locs hP hD hS => ?_)
  refine lv_aload_n hx hb dX1_lossIn_18 rfl (lv_at hl 0 rfl) ?_
  refine x_get (C := RX1) (T := TX1) (N := 2) hx hb hts in_wsX10 hown hK hP 0 rfl rfl 1 (by decide) q99 (v := .ref h2) rfl dX1_lossIn_19 ?_
  refine lv_iload_n hx hb dX1_lossIn_22 rfl (lv_at hl 1 rfl) ?_
  refine MC.callV (C := RX0) (T := TX0) (N := 16) (As := [.int (nI t)]) (rest := []) (wB := (oC ob h h2) ++ ((mC cI cZ h a σ) ++ (mC cI cZ h2 a2 (hours t σ)))) (c_X0_passHours l D cI cZ cL h2 a2 σ hst t (by omega)) ⟨hx, hb, hml, hown, hts⟩ q184 b_X0_passHours (n := 1) (by decide +kernel) ⟨Nat.le_of_ble_eq_true rfl, Nat.le_of_ble_eq_true rfl⟩ hK hP hD hS hA (sp2 _ _ _) (sp2 _ _ _) (ci := 0) rfl (q0 := 13) rfl rfl hl.1 rfl (Nat.le_of_ble_eq_true rfl) dX1_lossIn_23 ⟨Nat.le_of_ble_eq_true rfl, Nat.le_of_ble_eq_true rfl⟩ (fun H locs hP hD hS => ?_)
  refine lv_aload_n hx hb dX1_lossIn_26 rfl (lv_at hl 0 rfl) ?_
  refine x_get (C := RX1) (T := TX1) (N := 2) hx hb hts in_wsX10 hown hK hP 0 rfl rfl 1 (by decide) q99 (v := .ref h2) rfl dX1_lossIn_27 ?_
  refine MC.callV (C := RX0) (T := TX0) (N := 16) (As := []) (rest := []) (wB := (oC ob h h2) ++ ((mC cI cZ h a σ) ++ (mC cI cZ h2 a2 (hours t σ)))) (c_X0_lostWorth l D cI cZ cL h2 a2 (hours t σ) (hst.hrs t)) ⟨hx, hb, hml, hown, hts⟩ q250 b_X0_lostWorth (n := 0) (by decide +kernel) ⟨Nat.le_of_ble_eq_true rfl, Nat.le_of_ble_eq_true rfl⟩ hK hP hD hS hA (sp2 _ _ _) (sp2 _ _ _) (ci := 0) rfl (q0 := 13) rfl rfl hl.1 rfl (Nat.le_of_ble_eq_true rfl) dX1_lossIn_30 ⟨Nat.le_of_ble_eq_true rfl, Nat.le_of_ble_eq_true rfl⟩ (fun H locs hP hD hS => ?_)
  subst hQ
  exact xri (hours t σ) hx hb hr hlocks hK hP hD hS dX1_lossIn_33 (rfl) (rfl)

abbrev rmX1_waterIn : Room := { frames := 5, cells := 0, slots := 0, locals := 127 }
theorem b_X1_waterIn : Cond.instanceMethod yX1_waterIn ∈ LW ∧ Cond.selects RX1 yX1_waterIn yX1_waterIn ∈ LW ∧ Cond.initialized RX1 ∈ LW ∧ Cond.code yX1_waterIn cX1_waterIn 3 (some .int) ∈ LW := ⟨q351, q352, q9, q353⟩
set_option maxHeartbeats 4000000 in
set_option maxRecDepth 100000 in
theorem c_X1_waterIn (l : Launch) (D : va_G) (cI cZ cL : ClassId) {n k : Nat} (ob h : Nat) (a : Nat → Nat) (h2 : Nat) (a2 : Nat → Nat) (σ τ : Sg) (hst : Shp n k σ) {B : Nat} (hB : Bnd B σ) (j : Nat) (hj : j < n) (t : Nat) (ht1 : 1 ≤ t) (ht : t ≤ 48) : MX l yX1_waterIn cX1_waterIn 3 (some .int) rmX1_waterIn D (tZ cI cZ cL) [.ref ob, .int (nI j), .int (nI t)] ((oC ob h h2) ++ ((mC cI cZ h a σ) ++ (mC cI cZ h2 a2 τ))) (fun ρ => (oC ob h h2) ++ ((mC cI cZ h a σ) ++ (mC cI cZ h2 a2 ρ))) (some (.int (hours t σ 2 j))) := by
  refine MX.of (by decide) (Nat.le_of_ble_eq_true rfl) ?_
  intro p e s m args below meth c A ls Q hx hb hml hr hts hown hlocks hA hP hD hK hS hl hQ hE
  have hown : s.vm.findClass RX1 = some m.cls := hown
  have hn10 := hst.1
  have hk16 := hst.2.1
  have hl : lv_has ls 3 [(0, .ref ob), (1, .int (nI j)), (2, .int (nI t))] := hl
  refine lv_aload_n hx hb dX1_waterIn_0 rfl (lv_at hl 0 rfl) ?_
  refine lv_iload_n hx hb dX1_waterIn_1 rfl (lv_at hl 1 rfl) ?_
  refine MC.callV (C := RX1) (T := TX1) (N := 2) (As := [.int (nI j)]) (rest := []) (wB := (oC ob h h2) ++ ((mC cI cZ h a σ) ++ (mC cI cZ h2 a2 τ))) (c_X1_requireField_ok l D cI cZ cL ob h a h2 a2 σ τ (nI j) (hasF_0 hst hj)) ⟨hx, hb, hml, hown, hts⟩ q258 b_X1_requireField (n := 1) (by decide +kernel) ⟨Nat.le_of_ble_eq_true rfl, Nat.le_of_ble_eq_true rfl⟩ hK hP hD hS hA (sp0 _) (sp0 _) (ci := 1) rfl (q0 := 0) rfl rfl hl.1 rfl (Nat.le_of_ble_eq_true rfl) dX1_waterIn_2 ⟨Nat.le_of_ble_eq_true rfl, Nat.le_of_ble_eq_true rfl⟩ (fun H locs hP hD hS => ?_)
  refine lv_iload_n hx hb dX1_waterIn_5 rfl (lv_at hl 2 rfl) ?_
  refine lv_iconst (v := 1) hx hb dX1_waterIn_6 (by decide) ?_
  refine lv_bipush (v := 48) hx hb dX1_waterIn_7 (by decide) ?_
  refine MC.callS (As := [.int (nI t), .int 1, .int 48]) (rest := []) (wB := (oC ob h h2) ++ ((mC cI cZ h a σ) ++ (mC cI cZ h2 a2 τ))) (c_X1_requireWithin_ok l D cI cZ cL (nI t) 1 48 (inR_1 (inR_t 1 48 (by decide) ht1 ht)).1 (inR_1 (inR_t 1 48 (by decide) ht1 ht)).2) ⟨hx, hb, hml, hown, hts⟩ q109 b_X1_requireWithin (n := 3) (by decide +kernel) ⟨Nat.le_of_ble_eq_true rfl, Nat.le_of_ble_eq_true rfl⟩ hK hP hD hS hA (spE _) (spE _) rfl hl.1 rfl (Nat.le_of_ble_eq_true rfl) dX1_waterIn_9 ⟨Nat.le_of_ble_eq_true rfl, Nat.le_of_ble_eq_true rfl⟩ (fun H locs hP hD hS => ?_)
  refine lv_aload_n hx hb dX1_waterIn_12 rfl (lv_at hl 0 rfl) ?_
  refine x_get (C := RX1) (T := TX1) (N := 2) hx hb hts in_wsX10 hown hK hP 0 rfl rfl 1 (by decide) q99 (v := .ref h2) rfl dX1_waterIn_13 ?_
  refine lv_aload_n hx hb dX1_waterIn_16 rfl (lv_at hl 0 rfl) ?_
  refine x_get (C := RX1) (T := TX1) (N := 2) hx hb hts in_wsX10 hown hK hP 0 rfl rfl 0 (by decide) q98 (v := .ref h) rfl dX1_waterIn_17 ?_
  refine MC.callV (C := RX0) (T := TX0) (N := 16) (As := [.ref h]) (rest := []) (wB := (oC ob h h2) ++ ((mC cI cZ h a σ) ++ (mC cI cZ h2 a2 σ))) (c_X0_becomeLike l D cI cZ cL h a σ h2 a2 τ hB) ⟨hx, hb, hml, hown, hts⟩ q341 b_X0_becomeLike (n := 1) (by decide +kernel) ⟨Nat.le_of_ble_eq_true rfl, Nat.le_of_ble_eq_true rfl⟩ hK hP hD hS hA (sp3 _ _ _) (sp3 _ _ _) (ci := 0) rfl (q0 := 13) rfl rfl hl.1 rfl (Nat.le_of_ble_eq_true rfl) dX1_waterIn_20 ⟨Nat.le_of_ble_eq_true rfl, Nat.le_of_ble_eq_true rfl⟩ (fun H locs hP hD hS => ?_)
  refine lv_aload_n hx hb dX1_waterIn_23 rfl (lv_at hl 0 rfl) ?_
  refine x_get (C := RX1) (T := TX1) (N := 2) hx hb hts in_wsX10 hown hK hP 0 rfl rfl 1 (by decide) q99 (v := .ref h2) rfl dX1_waterIn_24 ?_
  refine lv_iload_n hx hb dX1_waterIn_27 rfl (lv_at hl 2 rfl) ?_
  refine MC.callV (C := RX0) (T := TX0) (N := 16) (As := [.int (nI t)]) (rest := []) (wB := (oC ob h h2) ++ ((mC cI cZ h a σ) ++ (mC cI cZ h2 a2 (hours t σ)))) (c_X0_passHours l D cI cZ cL h2 a2 σ hst t (by omega)) ⟨hx, hb, hml, hown, hts⟩ q184 b_X0_passHours (n := 1) (by decide +kernel) ⟨Nat.le_of_ble_eq_true rfl, Nat.le_of_ble_eq_true rfl⟩ hK hP hD hS hA (sp2 _ _ _) (sp2 _ _ _) (ci := 0) rfl (q0 := 13) rfl rfl hl.1 rfl (Nat.le_of_ble_eq_true rfl) dX1_waterIn_28 ⟨Nat.le_of_ble_eq_true rfl, Nat.le_of_ble_eq_true rfl⟩ (fun H locs hP hD hS => ?_)
  refine lv_aload_n hx hb dX1_waterIn_31 rfl (lv_at hl 0 rfl) ?_
  refine x_get (C := RX1) (T := TX1) (N := 2) hx hb hts in_wsX10 hown hK hP 0 rfl rfl 1 (by decide) q99 (v := .ref h2) rfl dX1_waterIn_32 ?_
  refine x_getN (C := RX0) (T := TX0) (N := 16) hx hb hts in_wsX00 hown hK hP 13 rfl rfl 2 (by decide) (hE.w 2 rfl) (v := .ref (a2 2)) rfl dX1_waterIn_35 ?_
  refine lv_iload_n hx hb dX1_waterIn_38 rfl (lv_at hl 1 rfl) ?_
  refine x_ild hx hb hK hP 16 0 rfl rfl j (rfl) (by omega) (by decide) (v := (hours t σ) 2 j) rfl dX1_waterIn_39 ?_
  subst hQ
  exact xri (hours t σ) hx hb hr hlocks hK hP hD hS dX1_waterIn_40 (rfl) (rfl)

abbrev rmX1_hoursUntilRuined : Room := { frames := 4, cells := 0, slots := 0, locals := 105 }
theorem b_X1_hoursUntilRuined : Cond.instanceMethod yX1_hoursUntilRuined ∈ LW ∧ Cond.selects RX1 yX1_hoursUntilRuined yX1_hoursUntilRuined ∈ LW ∧ Cond.initialized RX1 ∈ LW ∧ Cond.code yX1_hoursUntilRuined cX1_hoursUntilRuined 3 (some .int) ∈ LW := ⟨q338, q339, q9, q340⟩
set_option maxHeartbeats 4000000 in
set_option maxRecDepth 100000 in
theorem c_X1_hoursUntilRuined (l : Launch) (D : va_G) (cI cZ cL : ClassId) {n k : Nat} (ob h : Nat) (a : Nat → Nat) (h2 : Nat) (a2 : Nat → Nat) (σ τ : Sg) (hst : Shp n k σ) {B : Nat} (hB : Bnd B σ) (j : Nat) (hj : j < n) : MX l yX1_hoursUntilRuined cX1_hoursUntilRuined 3 (some .int) rmX1_hoursUntilRuined D (tZ cI cZ cL) [.ref ob, .int (nI j)] ((oC ob h h2) ++ ((mC cI cZ h a σ) ++ (mC cI cZ h2 a2 τ))) (fun ρ => (oC ob h h2) ++ ((mC cI cZ h a σ) ++ (mC cI cZ h2 a2 ρ))) (some (.int (untilS σ j))) := by
  refine MX.of (by decide) (Nat.le_of_ble_eq_true rfl) ?_
  intro p e s m args below meth c A ls Q hx hb hml hr hts hown hlocks hA hP hD hK hS hl hQ hE
  have hown : s.vm.findClass RX1 = some m.cls := hown
  have hn10 := hst.1
  have hk16 := hst.2.1
  have hl : lv_has ls 3 [(0, .ref ob), (1, .int (nI j))] := hl
  refine lv_aload_n hx hb dX1_hoursUntilRuined_0 rfl (lv_at hl 0 rfl) ?_
  refine lv_iload_n hx hb dX1_hoursUntilRuined_1 rfl (lv_at hl 1 rfl) ?_
  refine MC.callV (C := RX1) (T := TX1) (N := 2) (As := [.int (nI j)]) (rest := []) (wB := (oC ob h h2) ++ ((mC cI cZ h a σ) ++ (mC cI cZ h2 a2 τ))) (c_X1_requireField_ok l D cI cZ cL ob h a h2 a2 σ τ (nI j) (hasF_0 hst hj)) ⟨hx, hb, hml, hown, hts⟩ q258 b_X1_requireField (n := 1) (by decide +kernel) ⟨Nat.le_of_ble_eq_true rfl, Nat.le_of_ble_eq_true rfl⟩ hK hP hD hS hA (sp0 _) (sp0 _) (ci := 1) rfl (q0 := 0) rfl rfl hl.1 rfl (Nat.le_of_ble_eq_true rfl) dX1_hoursUntilRuined_2 ⟨Nat.le_of_ble_eq_true rfl, Nat.le_of_ble_eq_true rfl⟩ (fun H locs hP hD hS => ?_)
  refine lv_aload_n hx hb dX1_hoursUntilRuined_5 rfl (lv_at hl 0 rfl) ?_
  refine x_get (C := RX1) (T := TX1) (N := 2) hx hb hts in_wsX10 hown hK hP 0 rfl rfl 1 (by decide) q99 (v := .ref h2) rfl dX1_hoursUntilRuined_6 ?_
  refine lv_aload_n hx hb dX1_hoursUntilRuined_9 rfl (lv_at hl 0 rfl) ?_
  refine x_get (C := RX1) (T := TX1) (N := 2) hx hb hts in_wsX10 hown hK hP 0 rfl rfl 0 (by decide) q98 (v := .ref h) rfl dX1_hoursUntilRuined_10 ?_
  refine MC.callV (C := RX0) (T := TX0) (N := 16) (As := [.ref h]) (rest := []) (wB := (oC ob h h2) ++ ((mC cI cZ h a σ) ++ (mC cI cZ h2 a2 σ))) (c_X0_becomeLike l D cI cZ cL h a σ h2 a2 τ hB) ⟨hx, hb, hml, hown, hts⟩ q341 b_X0_becomeLike (n := 1) (by decide +kernel) ⟨Nat.le_of_ble_eq_true rfl, Nat.le_of_ble_eq_true rfl⟩ hK hP hD hS hA (sp3 _ _ _) (sp3 _ _ _) (ci := 0) rfl (q0 := 13) rfl rfl hl.1 rfl (Nat.le_of_ble_eq_true rfl) dX1_hoursUntilRuined_13 ⟨Nat.le_of_ble_eq_true rfl, Nat.le_of_ble_eq_true rfl⟩ (fun H locs hP hD hS => ?_)
  refine lv_iconst (v := 0) hx hb dX1_hoursUntilRuined_16 (by decide) ?_
  refine lv_istore_n (lv' := [(2, .int 0), (0, .ref ob), (1, .int (nI j))]) hx hb dX1_hoursUntilRuined_17 rfl hl (by decide) rfl (fun ls hl => ?_)
  have hl : lv_has ls 3 [(2, .int (nI 0)), (0, .ref ob), (1, .int (nI j))] := hl
  have L18 : ∀ (f i : Nat), i ≤ 101 → 101 < i + f → fstI (fun i => hours i σ 4 j) (101 - i) i = untilS σ j → ∀ (H : Heap) (locs : List Loc) (ls : Array Slot), va_P D vwCl ((oC ob h h2) ++ ((mC cI cZ h a σ) ++ (mC cI cZ h2 a2 (hours i σ)))) H → va_D A ((oC ob h h2) ++ ((mC cI cZ h a σ) ++ (mC cI cZ h2 a2 (hours i σ)))) → va_S A s.heap H locs → lv_has ls 3 [(0, .ref ob), (1, .int (nI j)), (2, .int (nI i))] → W p l e rmX1_hoursUntilRuined s m args below meth c H locs 0 0 Q (F0 m 18 ls []) := by
    intro f
    induction f with
    | zero => intro i h1 h2; exact absurd h2 (by omega)
    | succ f ih_18 =>
      intro i hi_18 hf_18 hu H locs ls hP hD hS hl
      obtain ⟨υ, eυ⟩ : ∃ z, z = hours i σ := ⟨_, rfl⟩
      rw [← eυ] at hP hD
      have hst9 : Shp n k υ := by rw [eυ]; exact hst.hrs i
      refine lv_iload_n hx hb dX1_hoursUntilRuined_18 rfl (lv_at hl 2 rfl) ?_
      refine lv_bipush (v := 100) hx hb dX1_hoursUntilRuined_19 (by decide) ?_
      refine lv_icmp_gt (tgt := 51) hx hb dX1_hoursUntilRuined_21 (by decide) (fun c_21 => ?_) (fun c_21 => ?_)
      · have hc_21 : 100 < i := (nI_ltI (a := 100) (b := i) (by omega) (by omega)).mp c_21
        refine lv_iconst (v := (-1)) hx hb dX1_hoursUntilRuined_51 (by decide) ?_
        subst hQ
        exact xri υ hx hb hr hlocks hK hP hD hS dX1_hoursUntilRuined_52 (rfl) (by rw [← hu, show 101 - i = 0 by omega]; rfl)
      · have hc_21 : i ≤ 100 := Nat.not_lt.mp (fun z => c_21 ((nI_ltI (a := 100) (b := i) (by omega) (by omega)).mpr z))
        refine lv_aload_n hx hb dX1_hoursUntilRuined_24 rfl (lv_at hl 0 rfl) ?_
        refine x_get (C := RX1) (T := TX1) (N := 2) hx hb hts in_wsX10 hown hK hP 0 rfl rfl 1 (by decide) q99 (v := .ref h2) rfl dX1_hoursUntilRuined_25 ?_
        refine x_getN (C := RX0) (T := TX0) (N := 16) hx hb hts in_wsX00 hown hK hP 13 rfl rfl 4 (by decide) (hE.w 8 rfl) (v := .ref (a2 4)) rfl dX1_hoursUntilRuined_28 ?_
        refine lv_iload_n hx hb dX1_hoursUntilRuined_31 rfl (lv_at hl 1 rfl) ?_
        refine x_zld hx hb hK hP 18 1 rfl rfl j (rfl) (by omega) (by decide) (v := υ 4 j) rfl dX1_hoursUntilRuined_32 ?_
        refine lv_if_eq (tgt := 38) hx hb dX1_hoursUntilRuined_33 (by decide) (fun c_33 => ?_) (fun c_33 => ?_)
        · refine lv_aload_n hx hb dX1_hoursUntilRuined_38 rfl (lv_at hl 0 rfl) ?_
          refine x_get (C := RX1) (T := TX1) (N := 2) hx hb hts in_wsX10 hown hK hP 0 rfl rfl 1 (by decide) q99 (v := .ref h2) rfl dX1_hoursUntilRuined_39 ?_
          refine MC.callV (C := RX0) (T := TX0) (N := 16) (As := []) (rest := []) (wB := (oC ob h h2) ++ ((mC cI cZ h a σ) ++ (mC cI cZ h2 a2 (hour υ)))) (c_X0_passHour l D cI cZ cL h2 a2 υ hst9) ⟨hx, hb, hml, hown, hts⟩ q345 b_X0_passHour (n := 0) (by decide +kernel) ⟨Nat.le_of_ble_eq_true rfl, Nat.le_of_ble_eq_true rfl⟩ hK hP hD hS hA (sp2 _ _ _) (sp2 _ _ _) (ci := 0) rfl (q0 := 13) rfl rfl hl.1 rfl (Nat.le_of_ble_eq_true rfl) dX1_hoursUntilRuined_42 ⟨Nat.le_of_ble_eq_true rfl, Nat.le_of_ble_eq_true rfl⟩ (fun H locs hP hD hS => ?_)
          refine lv_iinc (v := (nI (i + 1))) (lv' := [(2, .int (nI (i + 1))), (0, .ref ob), (1, .int (nI j))]) hx hb dX1_hoursUntilRuined_45 hl (k := 2) rfl (nI_add i 1) (by decide) rfl (fun ls hl => ?_)
          refine lv_goto (tgt := 18) hx hb dX1_hoursUntilRuined_48 (by decide) ?_
          have e9 : hour υ = hours (i + 1) σ := by rw [eυ]; rfl
          rw [e9] at hP hD
          exact ih_18 (i + 1) (by omega) (by omega) (by rw [← hu, show 101 - i = (101 - (i + 1)) + 1 by omega]; exact (fstI_no (g := (fun i => hours i σ 4 j)) (by show hours i σ 4 j = 0; rw [← eυ]; exact c_33)).symm) _ _ _ hP hD hS (lv_sub hl [1, 2, 0] rfl)
        · refine lv_iload_n hx hb dX1_hoursUntilRuined_36 rfl (lv_at hl 2 rfl) ?_
          subst hQ
          exact xri υ hx hb hr hlocks hK hP hD hS dX1_hoursUntilRuined_37 (rfl) (by rw [← hu, show 101 - i = (100 - i) + 1 by omega]; exact (fstI_yes (g := (fun i => hours i σ 4 j)) (by show ¬ hours i σ 4 j = 0; rw [← eυ]; exact c_33)).symm)
  exact L18 (101 + 1) 0 (by omega) (by omega) rfl _ _ _ hP hD hS (lv_sub hl [1, 2, 0] rfl)
