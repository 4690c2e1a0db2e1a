abbrev rmX1_requireField_ok : Room := { frames := 1, cells := 0, slots := 0, locals := 60 }
theorem b_X1_requireField : Cond.instanceMethod yX1_requireField ∈ LW ∧ Cond.selects RX1 yX1_requireField yX1_requireField ∈ LW ∧ Cond.initialized RX1 ∈ LW ∧ Cond.code yX1_requireField cX1_requireField 2 none ∈ LW := ⟨q260, q3, q9, q261⟩
set_option maxHeartbeats 4000000 in
set_option maxRecDepth 100000 in
theorem c_X1_requireField_ok (l : Launch) (D : va_G) (cI cZ cL : ClassId) (ob h : Nat) (a : Nat → Nat) (h2 : Nat) (a2 : Nat → Nat) (σ τ : Sg) (x : Int32) (hrr : hasF 0 σ x = 1) : MC l yX1_requireField cX1_requireField 2 none rmX1_requireField_ok D (tZ cI cZ cL) [.ref ob, .int x] ((oC ob h h2) ++ ((mC cI cZ h a σ) ++ (mC cI cZ h2 a2 τ))) ((oC ob h h2) ++ ((mC cI cZ h a σ) ++ (mC cI cZ h2 a2 τ))) (none) := by
  refine MC.of (by decide) (Nat.le_of_ble_eq_true rfl) ?_
  intro p e s m args below meth c A ls Q hx hb hml hr hts hown hlocks hA hP hD hK hS hl hQ
  have hown : s.vm.findClass RX1 = some m.cls := hown
  have hl : lv_has ls 2 [(0, .ref ob), (1, .int x)] := hl
  refine lv_aload_n hx hb dX1_requireField_0 rfl (lv_at hl 0 rfl) ?_
  refine x_get (C := RX1) (T := TX1) (N := 2) hx hb hts in_wsX10 hown hK hP 0 rfl rfl 0 (by decide) q98 (v := .ref h) rfl dX1_requireField_1 ?_
  refine lv_iload_n hx hb dX1_requireField_4 rfl (lv_at hl 1 rfl) ?_
  refine MC.callV (C := RX0) (T := TX0) (N := 16) (As := [.int x]) (rest := []) (wB := (oC ob h h2) ++ ((mC cI cZ h a σ) ++ (mC cI cZ h2 a2 τ))) (c_X0_hasField l D cI cZ cL h a σ x 1 hrr) ⟨hx, hb, hml, hown, hts⟩ q262 b_X0_hasField (n := 1) (by decide +kernel) ⟨Nat.le_of_ble_eq_true rfl, Nat.le_of_ble_eq_true rfl⟩ hK hP hD hS hA (sp1 _ _ _) (sp1 _ _ _) (ci := 0) rfl (q0 := 1) rfl rfl hl.1 rfl (Nat.le_of_ble_eq_true rfl) dX1_requireField_5 ⟨Nat.le_of_ble_eq_true rfl, Nat.le_of_ble_eq_true rfl⟩ (fun H locs hP hD hS => ?_)
  refine lv_if_ne (tgt := 21) hx hb dX1_requireField_8 (by decide) (fun c_8 => ?_) (fun z => absurd z (by decide))
  subst hQ
  exact rv hx hb hr hlocks hK hP hD hS dX1_requireField_21 (rfl)

abbrev rmX1_requireDrain_ok : Room := { frames := 1, cells := 0, slots := 0, locals := 60 }
theorem b_X1_requireDrain : Cond.instanceMethod yX1_requireDrain ∈ LW ∧ Cond.selects RX1 yX1_requireDrain yX1_requireDrain ∈ LW ∧ Cond.initialized RX1 ∈ LW ∧ Cond.code yX1_requireDrain cX1_requireDrain 2 none ∈ LW := ⟨q323, q4, q9, q324⟩
set_option maxHeartbeats 4000000 in
set_option maxRecDepth 100000 in
theorem c_X1_requireDrain_ok (l : Launch) (D : va_G) (cI cZ cL : ClassId) (ob h : Nat) (a : Nat → Nat) (h2 : Nat) (a2 : Nat → Nat) (σ τ : Sg) (x : Int32) (hrr : hasF 1 σ x = 1) : MC l yX1_requireDrain cX1_requireDrain 2 none rmX1_requireDrain_ok D (tZ cI cZ cL) [.ref ob, .int x] ((oC ob h h2) ++ ((mC cI cZ h a σ) ++ (mC cI cZ h2 a2 τ))) ((oC ob h h2) ++ ((mC cI cZ h a σ) ++ (mC cI cZ h2 a2 τ))) (none) := by
  refine MC.of (by decide) (Nat.le_of_ble_eq_true rfl) ?_
  intro p e s m args below meth c A ls Q hx hb hml hr hts hown hlocks hA hP hD hK hS hl hQ
  have hown : s.vm.findClass RX1 = some m.cls := hown
  have hl : lv_has ls 2 [(0, .ref ob), (1, .int x)] := hl
  refine lv_aload_n hx hb dX1_requireDrain_0 rfl (lv_at hl 0 rfl) ?_
  refine x_get (C := RX1) (T := TX1) (N := 2) hx hb hts in_wsX10 hown hK hP 0 rfl rfl 0 (by decide) q98 (v := .ref h) rfl dX1_requireDrain_1 ?_
  refine lv_iload_n hx hb dX1_requireDrain_4 rfl (lv_at hl 1 rfl) ?_
  refine MC.callV (C := RX0) (T := TX0) (N := 16) (As := [.int x]) (rest := []) (wB := (oC ob h h2) ++ ((mC cI cZ h a σ) ++ (mC cI cZ h2 a2 τ))) (c_X0_hasDrain l D cI cZ cL h a σ x 1 hrr) ⟨hx, hb, hml, hown, hts⟩ q325 b_X0_hasDrain (n := 1) (by decide +kernel) ⟨Nat.le_of_ble_eq_true rfl, Nat.le_of_ble_eq_true rfl⟩ hK hP hD hS hA (sp1 _ _ _) (sp1 _ _ _) (ci := 0) rfl (q0 := 1) rfl rfl hl.1 rfl (Nat.le_of_ble_eq_true rfl) dX1_requireDrain_5 ⟨Nat.le_of_ble_eq_true rfl, Nat.le_of_ble_eq_true rfl⟩ (fun H locs hP hD hS => ?_)
  refine lv_if_ne (tgt := 21) hx hb dX1_requireDrain_8 (by decide) (fun c_8 => ?_) (fun z => absurd z (by decide))
  subst hQ
  exact rv hx hb hr hlocks hK hP hD hS dX1_requireDrain_21 (rfl)

abbrev rmX1_requireWithin_ok : Room := { frames := 1, cells := 0, slots := 0, locals := 60 }
theorem b_X1_requireWithin : Cond.static yX1_requireWithin ∈ LW ∧ Cond.initialized yX1_requireWithin.cls ∈ LW ∧ Cond.code yX1_requireWithin cX1_requireWithin 3 none ∈ LW := ⟨q110, q9, q111⟩
set_option maxHeartbeats 4000000 in
set_option maxRecDepth 100000 in
theorem c_X1_requireWithin_ok (l : Launch) (D : va_G) (cI cZ cL : ClassId) (x y z : Int32) (h1 : ¬ x < y) (h9 : x ≤ z) : MC l yX1_requireWithin cX1_requireWithin 3 none rmX1_requireWithin_ok D (tZ cI cZ cL) [.int x, .int y, .int z] ([]) ([]) (none) := by
  refine MC.of (by decide) (Nat.le_of_ble_eq_true rfl) ?_
  intro p e s m args below meth c A ls Q hx hb hml hr hts hown hlocks hA hP hD hK hS hl hQ
  have hown : s.vm.findClass RX1 = some m.cls := hown
  have hl : lv_has ls 3 [(0, .int x), (1, .int y), (2, .int z)] := hl
  refine lv_iload_n hx hb dX1_requireWithin_0 rfl (lv_at hl 0 rfl) ?_
  refine lv_iload_n hx hb dX1_requireWithin_1 rfl (lv_at hl 1 rfl) ?_
  refine lv_icmp_lt (tgt := 10) hx hb dX1_requireWithin_2 (by decide) (fun z => absurd z (h1)) (fun c_2 => ?_)
  refine lv_iload_n hx hb dX1_requireWithin_5 rfl (lv_at hl 0 rfl) ?_
  refine lv_iload_n hx hb dX1_requireWithin_6 rfl (lv_at hl 2 rfl) ?_
  refine lv_icmp_le (tgt := 20) hx hb dX1_requireWithin_7 (by decide) (fun c_7 => ?_) (fun z => absurd (h9) z)
  subst hQ
  exact rv hx hb hr hlocks hK hP hD hS dX1_requireWithin_20 (rfl)

abbrev rmX1_addField_d : Room := { frames := 2, cells := 0, slots := 0, locals := 82 }
theorem b_X1_addField : Cond.instanceMethod yX1_addField ∈ LW ∧ Cond.selects RX1 yX1_addField yX1_addField ∈ LW ∧ Cond.initialized RX1 ∈ LW ∧ Cond.code yX1_addField cX1_addField 4 (some .int) ∈ LW := ⟨q542, q543, q9, q544⟩
set_option maxHeartbeats 4000000 in
set_option maxRecDepth 100000 in
theorem c_X1_addField_d (l : Launch) (D : va_G) (cI cZ cL : ClassId) {n k : Nat} (ob h : Nat) (a : Nat → Nat) (h2 : Nat) (a2 : Nat → Nat) (σ τ : Sg) (hst : Shp n k σ) (p0 p1 : Int32) (hr0 : ¬ inR p0 0 20 = 0) (hr1 : ¬ inR p1 0 99 = 0) (hn9 : ¬ n = 10) : MX l yX1_addField cX1_addField 4 (some .int) rmX1_addField_d D (tZ cI cZ cL) [.ref ob, .int p0, .int p1] ((oC ob h h2) ++ ((mC cI cZ h a σ) ++ (mC cI cZ h2 a2 τ))) (fun ρ => (oC ob h h2) ++ ((mC cI cZ h a (putF n p0 p1 σ)) ++ (mC cI cZ h2 a2 ρ))) (some (.int (nI n))) := by
  refine MX.of (by decide) (Nat.le_of_ble_eq_true rfl) ?_
  intro p e s m args below meth c A ls Q hx hb hml hr hts hown hlocks hA hP hD hK hS hl hQ hE
  have hown : s.vm.findClass RX1 = some m.cls := hown
  have hn10 := hst.1
  have hk16 := hst.2.1
  have hl : lv_has ls 4 [(0, .ref ob), (1, .int p0), (2, .int p1)] := hl
  refine lv_iload_n hx hb dX1_addField_0 rfl (lv_at hl 1 rfl) ?_
  refine lv_iconst (v := 0) hx hb dX1_addField_1 (by decide) ?_
  refine lv_bipush (v := 20) hx hb dX1_addField_2 (by decide) ?_
  refine MC.callS (As := [.int p0, .int 0, .int 20]) (rest := []) (wB := (oC ob h h2) ++ ((mC cI cZ h a σ) ++ (mC cI cZ h2 a2 τ))) (c_X1_requireWithin_ok l D cI cZ cL p0 0 20 (inR_1 hr0).1 (inR_1 hr0).2) ⟨hx, hb, hml, hown, hts⟩ q109 b_X1_requireWithin (n := 3) (by decide +kernel) ⟨Nat.le_of_ble_eq_true rfl, Nat.le_of_ble_eq_true rfl⟩ hK hP hD hS hA (spE _) (spE _) rfl hl.1 rfl (Nat.le_of_ble_eq_true rfl) dX1_addField_4 ⟨Nat.le_of_ble_eq_true rfl, Nat.le_of_ble_eq_true rfl⟩ (fun H locs hP hD hS => ?_)
  refine lv_iload_n hx hb dX1_addField_7 rfl (lv_at hl 2 rfl) ?_
  refine lv_iconst (v := 0) hx hb dX1_addField_8 (by decide) ?_
  refine lv_bipush (v := 99) hx hb dX1_addField_9 (by decide) ?_
  refine MC.callS (As := [.int p1, .int 0, .int 99]) (rest := []) (wB := (oC ob h h2) ++ ((mC cI cZ h a σ) ++ (mC cI cZ h2 a2 τ))) (c_X1_requireWithin_ok l D cI cZ cL p1 0 99 (inR_1 hr1).1 (inR_1 hr1).2) ⟨hx, hb, hml, hown, hts⟩ q109 b_X1_requireWithin (n := 3) (by decide +kernel) ⟨Nat.le_of_ble_eq_true rfl, Nat.le_of_ble_eq_true rfl⟩ hK hP hD hS hA (spE _) (spE _) rfl hl.1 rfl (Nat.le_of_ble_eq_true rfl) dX1_addField_11 ⟨Nat.le_of_ble_eq_true rfl, Nat.le_of_ble_eq_true rfl⟩ (fun H locs hP hD hS => ?_)
  refine lv_aload_n hx hb dX1_addField_14 rfl (lv_at hl 0 rfl) ?_
  refine x_get (C := RX1) (T := TX1) (N := 2) hx hb hts in_wsX10 hown hK hP 0 rfl rfl 0 (by decide) q98 (v := .ref h) rfl dX1_addField_15 ?_
  refine lv_iload_n hx hb dX1_addField_18 rfl (lv_at hl 1 rfl) ?_
  refine lv_iload_n hx hb dX1_addField_19 rfl (lv_at hl 2 rfl) ?_
  refine MC.callV (C := RX0) (T := TX0) (N := 16) (As := [.int p0, .int p1]) (rest := []) (wB := (oC ob h h2) ++ ((mC cI cZ h a (putF n p0 p1 σ)) ++ (mC cI cZ h2 a2 τ))) (c_X0_putField l D cI cZ cL h a σ hst p0 p1) ⟨hx, hb, hml, hown, hts⟩ q545 b_X0_putField (n := 2) (by decide +kernel) ⟨Nat.le_of_ble_eq_true rfl, Nat.le_of_ble_eq_true rfl⟩ hK hP hD hS hA (sp1 _ _ _) (sp1 _ _ _) (ci := 0) rfl (q0 := 1) rfl rfl hl.1 rfl (Nat.le_of_ble_eq_true rfl) dX1_addField_20 ⟨Nat.le_of_ble_eq_true rfl, Nat.le_of_ble_eq_true rfl⟩ (fun H locs hP hD hS => ?_)
  refine x_top (if_neg (by omega)) ?_
  refine lv_istore_n (lv' := [(3, .int (nI n)), (0, .ref ob), (1, .int p0), (2, .int p1)]) hx hb dX1_addField_23 rfl hl (by decide) rfl (fun ls hl => ?_)
  refine lv_iload_n hx hb dX1_addField_24 rfl (lv_at hl 0 rfl) ?_
  refine lv_iconst (v := (-1)) hx hb dX1_addField_25 (by decide) ?_
  refine lv_icmp_ne (tgt := 39) hx hb dX1_addField_26 (by decide) (fun c_26 => ?_) (fun z => absurd z (nI_ne_m1 (by omega)))
  refine lv_iload_n hx hb dX1_addField_39 rfl (lv_at hl 0 rfl) ?_
  subst hQ
  exact xri τ hx hb hr hlocks hK hP hD hS dX1_addField_40 (rfl) (rfl)

abbrev rmX1_addDrain_d : Room := { frames := 2, cells := 0, slots := 0, locals := 82 }
theorem b_X1_addDrain : Cond.instanceMethod yX1_addDrain ∈ LW ∧ Cond.selects RX1 yX1_addDrain yX1_addDrain ∈ LW ∧ Cond.initialized RX1 ∈ LW ∧ Cond.code yX1_addDrain cX1_addDrain 6 (some .int) ∈ LW := ⟨q571, q7, q9, q572⟩
set_option maxHeartbeats 4000000 in
set_option maxRecDepth 100000 in
theorem c_X1_addDrain_d (l : Launch) (D : va_G) (cI cZ cL : ClassId) {n k : Nat} (ob h : Nat) (a : Nat → Nat) (h2 : Nat) (a2 : Nat → Nat) (σ τ : Sg) (hst : Shp n k σ) (p0 p1 p2 y : Int32) (hy : y = 0 ∨ y = 1) (h0 : ¬ p0 = p1) (hr1 : ¬ inR p2 1 9 = 0) (hk9 : ¬ k = 16) : MX l yX1_addDrain cX1_addDrain 6 (some .int) rmX1_addDrain_d D (tZ cI cZ cL) [.ref ob, .int p0, .int p1, .int p2, .int y] ((oC ob h h2) ++ ((mC cI cZ h a σ) ++ (mC cI cZ h2 a2 τ))) (fun ρ => (oC ob h h2) ++ ((mC cI cZ h a (putD k p0 p1 p2 y σ)) ++ (mC cI cZ h2 a2 ρ))) (some (.int (nI k))) := by
  refine MX.of (by decide) (Nat.le_of_ble_eq_true rfl) ?_
  intro p e s m args below meth c A ls Q hx hb hml hr hts hown hlocks hA hP hD hK hS hl hQ hE
  have hown : s.vm.findClass RX1 = some m.cls := hown
  have hn10 := hst.1
  have hk16 := hst.2.1
  have hl : lv_has ls 6 [(0, .ref ob), (1, .int p0), (2, .int p1), (3, .int p2), (4, .int y)] := hl
  refine lv_iload_n hx hb dX1_addDrain_0 rfl (lv_at hl 1 rfl) ?_
  refine lv_iload_n hx hb dX1_addDrain_1 rfl (lv_at hl 2 rfl) ?_
  refine lv_icmp_ne (tgt := 15) hx hb dX1_addDrain_2 (by decide) (fun c_2 => ?_) (fun z => absurd z (h0))
  refine lv_iload_n hx hb dX1_addDrain_15 rfl (lv_at hl 3 rfl) ?_
  refine lv_iconst (v := 1) hx hb dX1_addDrain_16 (by decide) ?_
  refine lv_bipush (v := 9) hx hb dX1_addDrain_17 (by decide) ?_
  refine MC.callS (As := [.int p2, .int 1, .int 9]) (rest := []) (wB := (oC ob h h2) ++ ((mC cI cZ h a σ) ++ (mC cI cZ h2 a2 τ))) (c_X1_requireWithin_ok l D cI cZ cL p2 1 9 (inR_1 hr1).1 (inR_1 hr1).2) ⟨hx, hb, hml, hown, hts⟩ q109 b_X1_requireWithin (n := 3) (by decide +kernel) ⟨Nat.le_of_ble_eq_true rfl, Nat.le_of_ble_eq_true rfl⟩ hK hP hD hS hA (spE _) (spE _) rfl hl.1 rfl (Nat.le_of_ble_eq_true rfl) dX1_addDrain_19 ⟨Nat.le_of_ble_eq_true rfl, Nat.le_of_ble_eq_true rfl⟩ (fun H locs hP hD hS => ?_)
  refine lv_aload_n hx hb dX1_addDrain_22 rfl (lv_at hl 0 rfl) ?_
  refine x_get (C := RX1) (T := TX1) (N := 2) hx hb hts in_wsX10 hown hK hP 0 rfl rfl 0 (by decide) q98 (v := .ref h) rfl dX1_addDrain_23 ?_
  refine lv_iload_n hx hb dX1_addDrain_26 rfl (lv_at hl 1 rfl) ?_
  refine lv_iload_n hx hb dX1_addDrain_27 rfl (lv_at hl 2 rfl) ?_
  refine lv_iload_n hx hb dX1_addDrain_28 rfl (lv_at hl 3 rfl) ?_
  refine lv_iload hx hb dX1_addDrain_29 (lv_at hl 4 rfl) ?_
  refine MC.callV (C := RX0) (T := TX0) (N := 16) (As := [.int p0, .int p1, .int p2, .int y]) (rest := []) (wB := (oC ob h h2) ++ ((mC cI cZ h a (putD k p0 p1 p2 y σ)) ++ (mC cI cZ h2 a2 τ))) (c_X0_putDrain l D cI cZ cL h a σ hst p0 p1 p2 y hy) ⟨hx, hb, hml, hown, hts⟩ q574 b_X0_putDrain (n := 4) (by decide +kernel) ⟨Nat.le_of_ble_eq_true rfl, Nat.le_of_ble_eq_true rfl⟩ hK hP hD hS hA (sp1 _ _ _) (sp1 _ _ _) (ci := 0) rfl (q0 := 1) rfl rfl hl.1 rfl (Nat.le_of_ble_eq_true rfl) dX1_addDrain_31 ⟨Nat.le_of_ble_eq_true rfl, Nat.le_of_ble_eq_true rfl⟩ (fun H locs hP hD hS => ?_)
  refine x_top (if_neg (by omega)) ?_
  refine lv_istore (lv' := [(5, .int (nI k)), (0, .ref ob), (1, .int p0), (2, .int p1), (3, .int p2), (4, .int y)]) hx hb dX1_addDrain_34 hl (by decide) rfl (fun ls hl => ?_)
  refine lv_iload hx hb dX1_addDrain_36 (lv_at hl 0 rfl) ?_
  refine lv_iconst (v := (-1)) hx hb dX1_addDrain_38 (by decide) ?_
  refine lv_icmp_ne (tgt := 52) hx hb dX1_addDrain_39 (by decide) (fun c_39 => ?_) (fun z => absurd z (nI_ne_m1 (by omega)))
  refine lv_iload hx hb dX1_addDrain_52 (lv_at hl 0 rfl) ?_
  subst hQ
  exact xri τ hx hb hr hlocks hK hP hD hS dX1_addDrain_54 (rfl) (rfl)

abbrev rmX1_addDitch_d : Room := { frames := 3, cells := 0, slots := 0, locals := 107 }
theorem b_X1_addDitch : Cond.instanceMethod yX1_addDitch ∈ LW ∧ Cond.selects RX1 yX1_addDitch yX1_addDitch ∈ LW ∧ Cond.initialized RX1 ∈ LW ∧ Cond.code yX1_addDitch cX1_addDitch 4 (some .int) ∈ LW := ⟨q566, q567, q9, q568⟩
set_option maxHeartbeats 4000000 in
set_option maxRecDepth 100000 in
theorem c_X1_addDitch_d (l : Launch) (D : va_G) (cI cZ cL : ClassId) {n k : Nat} (ob h : Nat) (a : Nat → Nat) (h2 : Nat) (a2 : Nat → Nat) (σ τ : Sg) (hst : Shp n k σ) (p0 p1 p2 : Int32) (hf0 : hasF 0 σ p0 = 1) (hf1 : hasF 0 σ p1 = 1) (h0 : ¬ p0 = p1) (hr1 : ¬ inR p2 1 9 = 0) (hk9 : ¬ k = 16) : MX l yX1_addDitch cX1_addDitch 4 (some .int) rmX1_addDitch_d D (tZ cI cZ cL) [.ref ob, .int p0, .int p1, .int p2] ((oC ob h h2) ++ ((mC cI cZ h a σ) ++ (mC cI cZ h2 a2 τ))) (fun ρ => (oC ob h h2) ++ ((mC cI cZ h a (putD k p0 p1 p2 0 σ)) ++ (mC cI cZ h2 a2 ρ))) (some (.int (nI k))) := by
  refine MX.of (by decide) (Nat.le_of_ble_eq_true rfl) ?_
  intro p e s m args below meth c A ls Q hx hb hml hr hts hown hlocks hA hP hD hK hS hl hQ hE
  have hown : s.vm.findClass RX1 = some m.cls := hown
  have hl : lv_has ls 4 [(0, .ref ob), (1, .int p0), (2, .int p1), (3, .int p2)] := hl
  refine lv_aload_n hx hb dX1_addDitch_0 rfl (lv_at hl 0 rfl) ?_
  refine lv_iload_n hx hb dX1_addDitch_1 rfl (lv_at hl 1 rfl) ?_
  refine MC.callV (C := RX1) (T := TX1) (N := 2) (As := [.int p0]) (rest := []) (wB := (oC ob h h2) ++ ((mC cI cZ h a σ) ++ (mC cI cZ h2 a2 τ))) (c_X1_requireField_ok l D cI cZ cL ob h a h2 a2 σ τ p0 (hf0)) ⟨hx, hb, hml, hown, hts⟩ q258 b_X1_requireField (n := 1) (by decide +kernel) ⟨Nat.le_of_ble_eq_true rfl, Nat.le_of_ble_eq_true rfl⟩ hK hP hD hS hA (sp0 _) (sp0 _) (ci := 1) rfl (q0 := 0) rfl rfl hl.1 rfl (Nat.le_of_ble_eq_true rfl) dX1_addDitch_2 ⟨Nat.le_of_ble_eq_true rfl, Nat.le_of_ble_eq_true rfl⟩ (fun H locs hP hD hS => ?_)
  refine lv_aload_n hx hb dX1_addDitch_5 rfl (lv_at hl 0 rfl) ?_
  refine lv_iload_n hx hb dX1_addDitch_6 rfl (lv_at hl 2 rfl) ?_
  refine MC.callV (C := RX1) (T := TX1) (N := 2) (As := [.int p1]) (rest := []) (wB := (oC ob h h2) ++ ((mC cI cZ h a σ) ++ (mC cI cZ h2 a2 τ))) (c_X1_requireField_ok l D cI cZ cL ob h a h2 a2 σ τ p1 (hf1)) ⟨hx, hb, hml, hown, hts⟩ q258 b_X1_requireField (n := 1) (by decide +kernel) ⟨Nat.le_of_ble_eq_true rfl, Nat.le_of_ble_eq_true rfl⟩ hK hP hD hS hA (sp0 _) (sp0 _) (ci := 1) rfl (q0 := 0) rfl rfl hl.1 rfl (Nat.le_of_ble_eq_true rfl) dX1_addDitch_7 ⟨Nat.le_of_ble_eq_true rfl, Nat.le_of_ble_eq_true rfl⟩ (fun H locs hP hD hS => ?_)
  refine lv_aload_n hx hb dX1_addDitch_10 rfl (lv_at hl 0 rfl) ?_
  refine lv_iload_n hx hb dX1_addDitch_11 rfl (lv_at hl 1 rfl) ?_
  refine lv_iload_n hx hb dX1_addDitch_12 rfl (lv_at hl 2 rfl) ?_
  refine lv_iload_n hx hb dX1_addDitch_13 rfl (lv_at hl 3 rfl) ?_
  refine lv_iconst (v := 0) hx hb dX1_addDitch_14 (by decide) ?_
  refine MX.callV (C := RX1) (T := TX1) (N := 2) (As := [.int p0, .int p1, .int p2, .int 0]) (rest := []) (wB := (fun ρ => (oC ob h h2) ++ ((mC cI cZ h a (putD k p0 p1 p2 0 σ)) ++ (mC cI cZ h2 a2 ρ)))) (c_X1_addDrain_d l D cI cZ cL ob h a h2 a2 σ τ hst p0 p1 p2 0 (Or.inl rfl) h0 hr1 hk9) ⟨hx, hb, hml, hown, hts⟩ q569 b_X1_addDrain (n := 4) (by decide +kernel) ⟨Nat.le_of_ble_eq_true rfl, Nat.le_of_ble_eq_true rfl⟩ hK hP hD hS hA hE (sp0 _) (fun _ => sp0 _) (ci := 1) rfl (q0 := 0) rfl rfl hl.1 rfl (Nat.le_of_ble_eq_true rfl) dX1_addDitch_15 ⟨Nat.le_of_ble_eq_true rfl, Nat.le_of_ble_eq_true rfl⟩ (fun ρ_1 H locs hP hD hS => ?_)
  have hP : va_P D vwCl ((oC ob h h2) ++ ((mC cI cZ h a (putD k p0 p1 p2 0 σ)) ++ (mC cI cZ h2 a2 ρ_1))) H := hP
  have hD : va_D A ((oC ob h h2) ++ ((mC cI cZ h a (putD k p0 p1 p2 0 σ)) ++ (mC cI cZ h2 a2 ρ_1))) := hD
  subst hQ
  exact xri ρ_1 hx hb hr hlocks hK hP hD hS dX1_addDitch_18 (rfl) (rfl)

abbrev rmX1_addPump_d : Room := { frames := 3, cells := 0, slots := 0, locals := 107 }
theorem b_X1_addPump : Cond.instanceMethod yX1_addPump ∈ LW ∧ Cond.selects RX1 yX1_addPump yX1_addPump ∈ LW ∧ Cond.initialized RX1 ∈ LW ∧ Cond.code yX1_addPump cX1_addPump 4 (some .int) ∈ LW := ⟨q580, q581, q9, q582⟩
set_option maxHeartbeats 4000000 in
set_option maxRecDepth 100000 in
theorem c_X1_addPump_d (l : Launch) (D : va_G) (cI cZ cL : ClassId) {n k : Nat} (ob h : Nat) (a : Nat → Nat) (h2 : Nat) (a2 : Nat → Nat) (σ τ : Sg) (hst : Shp n k σ) (p0 p1 p2 : Int32) (hf0 : hasF 0 σ p0 = 1) (hm : ¬ p1 = -1) (hf1 : hasF 0 σ p1 = 1) (h0 : ¬ p0 = p1) (hr1 : ¬ inR p2 1 9 = 0) (hk9 : ¬ k = 16) : MX l yX1_addPump cX1_addPump 4 (some .int) rmX1_addPump_d D (tZ cI cZ cL) [.ref ob, .int p0, .int p1, .int p2] ((oC ob h h2) ++ ((mC cI cZ h a σ) ++ (mC cI cZ h2 a2 τ))) (fun ρ => (oC ob h h2) ++ ((mC cI cZ h a (putD k p0 p1 p2 1 σ)) ++ (mC cI cZ h2 a2 ρ))) (some (.int (nI k))) := by
  refine MX.of (by decide) (Nat.le_of_ble_eq_true rfl) ?_
  intro p e s m args below meth c A ls Q hx hb hml hr hts hown hlocks hA hP hD hK hS hl hQ hE
  have hown : s.vm.findClass RX1 = some m.cls := hown
  have hl : lv_has ls 4 [(0, .ref ob), (1, .int p0), (2, .int p1), (3, .int p2)] := hl
  refine lv_aload_n hx hb dX1_addPump_0 rfl (lv_at hl 0 rfl) ?_
  refine lv_iload_n hx hb dX1_addPump_1 rfl (lv_at hl 1 rfl) ?_
  refine MC.callV (C := RX1) (T := TX1) (N := 2) (As := [.int p0]) (rest := []) (wB := (oC ob h h2) ++ ((mC cI cZ h a σ) ++ (mC cI cZ h2 a2 τ))) (c_X1_requireField_ok l D cI cZ cL ob h a h2 a2 σ τ p0 (hf0)) ⟨hx, hb, hml, hown, hts⟩ q258 b_X1_requireField (n := 1) (by decide +kernel) ⟨Nat.le_of_ble_eq_true rfl, Nat.le_of_ble_eq_true rfl⟩ hK hP hD hS hA (sp0 _) (sp0 _) (ci := 1) rfl (q0 := 0) rfl rfl hl.1 rfl (Nat.le_of_ble_eq_true rfl) dX1_addPump_2 ⟨Nat.le_of_ble_eq_true rfl, Nat.le_of_ble_eq_true rfl⟩ (fun H locs hP hD hS => ?_)
  refine lv_iload_n hx hb dX1_addPump_5 rfl (lv_at hl 2 rfl) ?_
  refine lv_iconst (v := (-1)) hx hb dX1_addPump_6 (by decide) ?_
  refine lv_icmp_eq (tgt := 15) hx hb dX1_addPump_7 (by decide) (fun z => absurd z (hm)) (fun c_7 => ?_)
  refine lv_aload_n hx hb dX1_addPump_10 rfl (lv_at hl 0 rfl) ?_
  refine lv_iload_n hx hb dX1_addPump_11 rfl (lv_at hl 2 rfl) ?_
  refine MC.callV (C := RX1) (T := TX1) (N := 2) (As := [.int p1]) (rest := []) (wB := (oC ob h h2) ++ ((mC cI cZ h a σ) ++ (mC cI cZ h2 a2 τ))) (c_X1_requireField_ok l D cI cZ cL ob h a h2 a2 σ τ p1 (hf1)) ⟨hx, hb, hml, hown, hts⟩ q258 b_X1_requireField (n := 1) (by decide +kernel) ⟨Nat.le_of_ble_eq_true rfl, Nat.le_of_ble_eq_true rfl⟩ hK hP hD hS hA (sp0 _) (sp0 _) (ci := 1) rfl (q0 := 0) rfl rfl hl.1 rfl (Nat.le_of_ble_eq_true rfl) dX1_addPump_12 ⟨Nat.le_of_ble_eq_true rfl, Nat.le_of_ble_eq_true rfl⟩ (fun H locs hP hD hS => ?_)
  refine lv_aload_n hx hb dX1_addPump_15 rfl (lv_at hl 0 rfl) ?_
  refine lv_iload_n hx hb dX1_addPump_16 rfl (lv_at hl 1 rfl) ?_
  refine lv_iload_n hx hb dX1_addPump_17 rfl (lv_at hl 2 rfl) ?_
  refine lv_iload_n hx hb dX1_addPump_18 rfl (lv_at hl 3 rfl) ?_
  refine lv_iconst (v := 1) hx hb dX1_addPump_19 (by decide) ?_
  refine MX.callV (C := RX1) (T := TX1) (N := 2) (As := [.int p0, .int p1, .int p2, .int 1]) (rest := []) (wB := (fun ρ => (oC ob h h2) ++ ((mC cI cZ h a (putD k p0 p1 p2 1 σ)) ++ (mC cI cZ h2 a2 ρ)))) (c_X1_addDrain_d l D cI cZ cL ob h a h2 a2 σ τ hst p0 p1 p2 1 (Or.inr rfl) h0 hr1 hk9) ⟨hx, hb, hml, hown, hts⟩ q569 b_X1_addDrain (n := 4) (by decide +kernel) ⟨Nat.le_of_ble_eq_true rfl, Nat.le_of_ble_eq_true rfl⟩ hK hP hD hS hA hE (sp0 _) (fun _ => sp0 _) (ci := 1) rfl (q0 := 0) rfl rfl hl.1 rfl (Nat.le_of_ble_eq_true rfl) dX1_addPump_20 ⟨Nat.le_of_ble_eq_true rfl, Nat.le_of_ble_eq_true rfl⟩ (fun ρ_1 H locs hP hD hS => ?_)
  have hP : va_P D vwCl ((oC ob h h2) ++ ((mC cI cZ h a (putD k p0 p1 p2 1 σ)) ++ (mC cI cZ h2 a2 ρ_1))) H := hP
  have hD : va_D A ((oC ob h h2) ++ ((mC cI cZ h a (putD k p0 p1 p2 1 σ)) ++ (mC cI cZ h2 a2 ρ_1))) := hD
  subst hQ
  exact xri ρ_1 hx hb hr hlocks hK hP hD hS dX1_addPump_23 (rfl) (rfl)

abbrev rmX1_addPump_sd : Room := { frames := 3, cells := 0, slots := 0, locals := 107 }
set_option maxHeartbeats 4000000 in
set_option maxRecDepth 100000 in
theorem c_X1_addPump_sd (l : Launch) (D : va_G) (cI cZ cL : ClassId) {n k : Nat} (ob h : Nat) (a : Nat → Nat) (h2 : Nat) (a2 : Nat → Nat) (σ τ : Sg) (hst : Shp n k σ) (p0 p1 p2 : Int32) (hf0 : hasF 0 σ p0 = 1) (hm : p1 = -1) (h0 : ¬ p0 = p1) (hr1 : ¬ inR p2 1 9 = 0) (hk9 : ¬ k = 16) : MX l yX1_addPump cX1_addPump 4 (some .int) rmX1_addPump_sd D (tZ cI cZ cL) [.ref ob, .int p0, .int p1, .int p2] ((oC ob h h2) ++ ((mC cI cZ h a σ) ++ (mC cI cZ h2 a2 τ))) (fun ρ => (oC ob h h2) ++ ((mC cI cZ h a (putD k p0 p1 p2 1 σ)) ++ (mC cI cZ h2 a2 ρ))) (some (.int (nI k))) := by
  refine MX.of (by decide) (Nat.le_of_ble_eq_true rfl) ?_
  intro p e s m args below meth c A ls Q hx hb hml hr hts hown hlocks hA hP hD hK hS hl hQ hE
  have hown : s.vm.findClass RX1 = some m.cls := hown
  have hl : lv_has ls 4 [(0, .ref ob), (1, .int p0), (2, .int p1), (3, .int p2)] := hl
  refine lv_aload_n hx hb dX1_addPump_0 rfl (lv_at hl 0 rfl) ?_
  refine lv_iload_n hx hb dX1_addPump_1 rfl (lv_at hl 1 rfl) ?_
  refine MC.callV (C := RX1) (T := TX1) (N := 2) (As := [.int p0]) (rest := []) (wB := (oC ob h h2) ++ ((mC cI cZ h a σ) ++ (mC cI cZ h2 a2 τ))) (c_X1_requireField_ok l D cI cZ cL ob h a h2 a2 σ τ p0 (hf0)) ⟨hx, hb, hml, hown, hts⟩ q258 b_X1_requireField (n := 1) (by decide +kernel) ⟨Nat.le_of_ble_eq_true rfl, Nat.le_of_ble_eq_true rfl⟩ hK hP hD hS hA (sp0 _) (sp0 _) (ci := 1) rfl (q0 := 0) rfl rfl hl.1 rfl (Nat.le_of_ble_eq_true rfl) dX1_addPump_2 ⟨Nat.le_of_ble_eq_true rfl, Nat.le_of_ble_eq_true rfl⟩ (fun H locs hP hD hS => ?_)
  refine lv_iload_n hx hb dX1_addPump_5 rfl (lv_at hl 2 rfl) ?_
  refine lv_iconst (v := (-1)) hx hb dX1_addPump_6 (by decide) ?_
  refine lv_icmp_eq (tgt := 15) hx hb dX1_addPump_7 (by decide) (fun c_7 => ?_) (fun z => absurd (hm) z)
  refine lv_aload_n hx hb dX1_addPump_15 rfl (lv_at hl 0 rfl) ?_
  refine lv_iload_n hx hb dX1_addPump_16 rfl (lv_at hl 1 rfl) ?_
  refine lv_iload_n hx hb dX1_addPump_17 rfl (lv_at hl 2 rfl) ?_
  refine lv_iload_n hx hb dX1_addPump_18 rfl (lv_at hl 3 rfl) ?_
  refine lv_iconst (v := 1) hx hb dX1_addPump_19 (by decide) ?_
  refine MX.callV (C := RX1) (T := TX1) (N := 2) (As := [.int p0, .int p1, .int p2, .int 1]) (rest := []) (wB := (fun ρ => (oC ob h h2) ++ ((mC cI cZ h a (putD k p0 p1 p2 1 σ)) ++ (mC cI cZ h2 a2 ρ)))) (c_X1_addDrain_d l D cI cZ cL ob h a h2 a2 σ τ hst p0 p1 p2 1 (Or.inr rfl) h0 hr1 hk9) ⟨hx, hb, hml, hown, hts⟩ q569 b_X1_addDrain (n := 4) (by decide +kernel) ⟨Nat.le_of_ble_eq_true rfl, Nat.le_of_ble_eq_true rfl⟩ hK hP hD hS hA hE (sp0 _) (fun _ => sp0 _) (ci := 1) rfl (q0 := 0) rfl rfl hl.1 rfl (Nat.le_of_ble_eq_true rfl) dX1_addPump_20 ⟨Nat.le_of_ble_eq_true rfl, Nat.le_of_ble_eq_true rfl⟩ (fun ρ_1 H locs hP hD hS => ?_)
  have hP : va_P D vwCl ((oC ob h h2) ++ ((mC cI cZ h a (putD k p0 p1 p2 1 σ)) ++ (mC cI cZ h2 a2 ρ_1))) H := hP
  have hD : va_D A ((oC ob h h2) ++ ((mC cI cZ h a (putD k p0 p1 p2 1 σ)) ++ (mC cI cZ h2 a2 ρ_1))) := hD
  subst hQ
  exact xri ρ_1 hx hb hr hlocks hK hP hD hS dX1_addPump_23 (rfl) (rfl)
