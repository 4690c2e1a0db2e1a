abbrev rmX1_meanWater : Room := { frames := 1, cells := 0, slots := 0, locals := 22 }
theorem b_X1_meanWater : Cond.instanceMethod yX1_meanWater ∈ LW ∧ Cond.selects RX1 yX1_meanWater yX1_meanWater ∈ LW ∧ Cond.initialized RX1 ∈ LW ∧ Cond.code yX1_meanWater cX1_meanWater 2 (some .double) ∈ LW := ⟨q526, q527, q9, q528⟩
set_option maxHeartbeats 4000000 in
set_option maxRecDepth 100000 in
theorem c_X1_meanWater (l : Launch) (D : va_G) (cI cZ cL : ClassId) {n k : Nat} (ob h : Nat) (a : Nat → Nat) (h2 : Nat) (a2 : Nat → Nat) (σ τ : Sg) (hst : Shp n k σ) : MX l yX1_meanWater cX1_meanWater 2 (some .double) rmX1_meanWater D (tZ cI cZ cL) [.ref ob] ((oC ob h h2) ++ ((mC cI cZ h a σ) ++ (mC cI cZ h2 a2 τ))) (fun ρ => (oC ob h h2) ++ ((mC cI cZ h a σ) ++ (mC cI cZ h2 a2 ρ))) (some (.double (meanS σ))) := by
  refine MX.of (by decide) (Nat.le_of_ble_eq_true rfl) ?_
  intro p e s m args below meth c A ls Q hx hb hml hr hts hown hlocks hA hP hD hK hS hl hQ hE
  have hown : s.vm.findClass RX1 = some m.cls := hown
  have hn10 := hst.1
  have hk16 := hst.2.1
  have hl : lv_has ls 2 [(0, .ref ob)] := hl
  refine lv_aload_n hx hb dX1_meanWater_0 rfl (lv_at hl 0 rfl) ?_
  refine x_get (C := RX1) (T := TX1) (N := 2) hx hb hts in_wsX10 hown hK hP 0 rfl rfl 0 (by decide) q98 (v := .ref h) rfl dX1_meanWater_1 ?_
  refine x_getN (C := RX0) (T := TX0) (N := 16) hx hb hts in_wsX00 hown hK hP 1 rfl rfl 11 (by decide) (hE.w 4 rfl) (v := .int (nI n)) (congrArg (fun z => some (Value.int z)) (hst.f0)) dX1_meanWater_4 ?_
  refine lv_istore_n (lv' := [(1, .int (nI n)), (0, .ref ob)]) hx hb dX1_meanWater_7 rfl hl (by decide) rfl (fun ls hl => ?_)
  refine lv_iload_n hx hb dX1_meanWater_8 rfl (lv_at hl 0 rfl) ?_
  refine lv_if_gt (tgt := 14) hx hb dX1_meanWater_9 (by decide) (fun c_9 => ?_) (fun c_9 => ?_)
  · have hc_9 : 0 < n := (nI_ltI (a := 0) (b := n) (by omega) (by omega)).mp c_9
    refine lv_aload_n hx hb dX1_meanWater_14 rfl (lv_at hl 1 rfl) ?_
    refine MX.callV (C := RX1) (T := TX1) (N := 2) (As := []) (rest := []) (wB := (fun ρ => (oC ob h h2) ++ ((mC cI cZ h a σ) ++ (mC cI cZ h2 a2 ρ)))) (c_X1_water l D cI cZ cL ob h a h2 a2 σ τ hst) ⟨hx, hb, hml, hown, hts⟩ q387 b_X1_water (n := 0) (by decide +kernel) ⟨Nat.le_of_ble_eq_true rfl, Nat.le_of_ble_eq_true rfl⟩ hK hP hD hS hA hE (sp0 _) (fun _ => sp0 _) (ci := 1) rfl (q0 := 0) rfl rfl hl.1 rfl (Nat.le_of_ble_eq_true rfl) dX1_meanWater_15 ⟨Nat.le_of_ble_eq_true rfl, Nat.le_of_ble_eq_true rfl⟩ (fun ρ_1 H locs hP hD hS => ?_)
    have hP : va_P D vwCl ((oC ob h h2) ++ ((mC cI cZ h a σ) ++ (mC cI cZ h2 a2 ρ_1))) H := hP
    have hD : va_D A ((oC ob h h2) ++ ((mC cI cZ h a σ) ++ (mC cI cZ h2 a2 ρ_1))) := hD
    refine lv_i2d hx hb dX1_meanWater_18 ?_
    refine lv_iload_n hx hb dX1_meanWater_19 rfl (lv_at hl 0 rfl) ?_
    refine lv_i2d hx hb dX1_meanWater_20 ?_
    refine lv_ddiv hx hb dX1_meanWater_21 (mean_num _ (nI_ne0 hc_9 (by omega))) ?_
    subst hQ
    exact xrd ρ_1 hx hb hr hlocks hK hP hD hS dX1_meanWater_22 (rfl) (by unfold meanS; rw [hst.eF, if_neg (by omega)])
  · have hc_9 : n ≤ 0 := Nat.not_lt.mp (fun z => c_9 ((nI_ltI (a := 0) (b := n) (by omega) (by omega)).mpr z))
    refine lv_dconst0 hx hb dX1_meanWater_12 ?_
    subst hQ
    exact xrd τ hx hb hr hlocks hK hP hD hS dX1_meanWater_13 (rfl) (by unfold meanS; rw [hst.eF, if_pos (by omega)])
