abbrev rmX1_requireField_ok : Room := { frames := 6, cells := 0, slots := 0, locals := 100 }
theorem b_X1_requireField : Cond.instanceMethod yX1_requireField ∈ LW ∧ Cond.selects RX1 yX1_requireField yX1_requireField ∈ LW ∧ Cond.initialized RX1 ∈ LW ∧ Cond.code yX1_requireField cX1_requireField 2 none ∈ LW := ⟨q365, q4, q38, q366⟩
set_option maxHeartbeats 4000000 in
set_option maxRecDepth 100000 in
theorem c_X1_requireField_ok (l : Launch) (D : va_G) (cI cZ cL : ClassId) (ob h : Nat) (a : Nat → Nat) (h2 : Nat) (a2 : Nat → Nat) (σ τ : Sg) (x : Int32) (hrr : hasF 0 σ x = 1) : MC l yX1_requireField cX1_requireField 2 none rmX1_requireField_ok D (tZ cI cZ cL) [.ref ob, .int x] ((oC ob h h2) ++ ((mC cI cZ h a σ) ++ (mC cI cZ h2 a2 τ))) ((oC ob h h2) ++ ((mC cI cZ h a σ) ++ (mC cI cZ h2 a2 τ))) (none) := by
  refine MC.of (by decide) (Nat.le_of_ble_eq_true rfl) ?_
  intro p e s m args below meth c A ls Q hx hb hml hr hts hown hlocks hA hP hD hK hS hl hQ
  have hown : s.vm.findClass RX1 = some m.cls := hown
  have hl : lv_has ls 2 [(0, .ref ob), (1, .int x)] := hl
  refine lv_aload_n hx hb dX1_requireField_0 rfl (lv_at hl 0 rfl) ?_
  refine x_get (C := RX1) (T := TX1) (N := 2) hx hb hts in_wsX10 hown hK hP 0 rfl rfl 0 (by decide) q128 (v := .ref h) rfl dX1_requireField_1 ?_
  refine lv_iload_n hx hb dX1_requireField_4 rfl (lv_at hl 1 rfl) ?_
  refine MC.callV (C := RX0) (T := TX0) (N := 16) (As := [.int x]) (rest := []) (wB := (oC ob h h2) ++ ((mC cI cZ h a σ) ++ (mC cI cZ h2 a2 τ))) (c_X0_hasField l D cI cZ cL h a σ x 1 hrr) ⟨hx, hb, hml, hown, hts⟩ q367 b_X0_hasField (n := 1) (by decide +kernel) ⟨Nat.le_of_ble_eq_true rfl, Nat.le_of_ble_eq_true rfl⟩ hK hP hD hS hA (sp1 _ _ _) (sp1 _ _ _) (ci := 0) rfl (q0 := 1) rfl rfl hl.1 rfl (Nat.le_of_ble_eq_true rfl) dX1_requireField_5 ⟨Nat.le_of_ble_eq_true rfl, Nat.le_of_ble_eq_true rfl⟩ (fun H locs hP hD hS => ?_)
  refine lv_if_ne (tgt := 21) hx hb dX1_requireField_8 (by decide) (fun c_8 => ?_) (fun z => absurd z (by decide))
  subst hQ
  exact rv hx hb hr hlocks hK hP hD hS dX1_requireField_21 (rfl)

abbrev rmX1_requireField_no : Room := { frames := 6, cells := 1, slots := 6, locals := 100 }
set_option maxHeartbeats 4000000 in
set_option maxRecDepth 100000 in
theorem c_X1_requireField_no (l : Launch) (hl9 : l.stackTraces = false) (D : va_G) (cI cZ cL : ClassId) (ob h : Nat) (a : Nat → Nat) (h2 : Nat) (a2 : Nat → Nat) (σ τ : Sg) (x : Int32) (hrr : hasF 0 σ x = 0) : MT l yX1_requireField cX1_requireField 2 none rmX1_requireField_no D (tZ cI cZ cL) [.ref ob, .int x] ((oC ob h h2) ++ ((mC cI cZ h a σ) ++ (mC cI cZ h2 a2 τ))) eIOB := by
  refine MT.of (by decide) (Nat.le_of_ble_eq_true rfl) ?_
  intro p e s m args below meth c A ls Q hx hb hml hr hts hown hlocks hA hP hD hK hS hl hQ hE htab
  have hown : s.vm.findClass RX1 = some m.cls := hown
  have hl : lv_has ls 2 [(0, .ref ob), (1, .int x)] := hl
  refine lv_aload_n hx hb dX1_requireField_0 rfl (lv_at hl 0 rfl) ?_
  refine x_get (C := RX1) (T := TX1) (N := 2) hx hb hts in_wsX10 hown hK hP 0 rfl rfl 0 (by decide) q128 (v := .ref h) rfl dX1_requireField_1 ?_
  refine lv_iload_n hx hb dX1_requireField_4 rfl (lv_at hl 1 rfl) ?_
  refine MC.callV (C := RX0) (T := TX0) (N := 16) (As := [.int x]) (rest := []) (wB := (oC ob h h2) ++ ((mC cI cZ h a σ) ++ (mC cI cZ h2 a2 τ))) (c_X0_hasField l D cI cZ cL h a σ x 0 hrr) ⟨hx, hb, hml, hown, hts⟩ q367 b_X0_hasField (n := 1) (by decide +kernel) ⟨Nat.le_of_ble_eq_true rfl, Nat.le_of_ble_eq_true rfl⟩ hK hP hD hS hA (sp1 _ _ _) (sp1 _ _ _) (ci := 0) rfl (q0 := 1) rfl rfl hl.1 rfl (Nat.le_of_ble_eq_true rfl) dX1_requireField_5 ⟨Nat.le_of_ble_eq_true rfl, Nat.le_of_ble_eq_true rfl⟩ (fun H locs hP hD hS => ?_)
  refine lv_if_ne (tgt := 21) hx hb dX1_requireField_8 (by decide) (fun z => absurd (by decide) z) (fun c_8 => ?_)
  subst hQ
  exact MT.thr (i9 := 3) rfl hx hb hts hl9 hown (by decide +kernel) q368 q46 rfl gd_IOB bd_IOB ot_IOB hE hlocks htab hK hP hD hS (by rw [hml]; exact hl.1) dX1_requireField_11 dX1_requireField_14 dX1_requireField_15 dX1_requireField_17 dX1_requireField_20 (Nat.le_of_ble_eq_true rfl) (Nat.le_of_ble_eq_true rfl) (Nat.le_of_ble_eq_true rfl) (Nat.le_of_ble_eq_true rfl) (Nat.le_of_ble_eq_true rfl) (Nat.le_of_ble_eq_true rfl)

abbrev rmX1_requireDrain_ok : Room := { frames := 6, cells := 0, slots := 0, locals := 100 }
theorem b_X1_requireDrain : Cond.instanceMethod yX1_requireDrain ∈ LW ∧ Cond.selects RX1 yX1_requireDrain yX1_requireDrain ∈ LW ∧ Cond.initialized RX1 ∈ LW ∧ Cond.code yX1_requireDrain cX1_requireDrain 2 none ∈ LW := ⟨q425, q6, q38, q426⟩
set_option maxHeartbeats 4000000 in
set_option maxRecDepth 100000 in
theorem c_X1_requireDrain_ok (l : Launch) (D : va_G) (cI cZ cL : ClassId) (ob h : Nat) (a : Nat → Nat) (h2 : Nat) (a2 : Nat → Nat) (σ τ : Sg) (x : Int32) (hrr : hasF 1 σ x = 1) : MC l yX1_requireDrain cX1_requireDrain 2 none rmX1_requireDrain_ok D (tZ cI cZ cL) [.ref ob, .int x] ((oC ob h h2) ++ ((mC cI cZ h a σ) ++ (mC cI cZ h2 a2 τ))) ((oC ob h h2) ++ ((mC cI cZ h a σ) ++ (mC cI cZ h2 a2 τ))) (none) := by
  refine MC.of (by decide) (Nat.le_of_ble_eq_true rfl) ?_
  intro p e s m args below meth c A ls Q hx hb hml hr hts hown hlocks hA hP hD hK hS hl hQ
  have hown : s.vm.findClass RX1 = some m.cls := hown
  have hl : lv_has ls 2 [(0, .ref ob), (1, .int x)] := hl
  refine lv_aload_n hx hb dX1_requireDrain_0 rfl (lv_at hl 0 rfl) ?_
  refine x_get (C := RX1) (T := TX1) (N := 2) hx hb hts in_wsX10 hown hK hP 0 rfl rfl 0 (by decide) q128 (v := .ref h) rfl dX1_requireDrain_1 ?_
  refine lv_iload_n hx hb dX1_requireDrain_4 rfl (lv_at hl 1 rfl) ?_
  refine MC.callV (C := RX0) (T := TX0) (N := 16) (As := [.int x]) (rest := []) (wB := (oC ob h h2) ++ ((mC cI cZ h a σ) ++ (mC cI cZ h2 a2 τ))) (c_X0_hasDrain l D cI cZ cL h a σ x 1 hrr) ⟨hx, hb, hml, hown, hts⟩ q427 b_X0_hasDrain (n := 1) (by decide +kernel) ⟨Nat.le_of_ble_eq_true rfl, Nat.le_of_ble_eq_true rfl⟩ hK hP hD hS hA (sp1 _ _ _) (sp1 _ _ _) (ci := 0) rfl (q0 := 1) rfl rfl hl.1 rfl (Nat.le_of_ble_eq_true rfl) dX1_requireDrain_5 ⟨Nat.le_of_ble_eq_true rfl, Nat.le_of_ble_eq_true rfl⟩ (fun H locs hP hD hS => ?_)
  refine lv_if_ne (tgt := 21) hx hb dX1_requireDrain_8 (by decide) (fun c_8 => ?_) (fun z => absurd z (by decide))
  subst hQ
  exact rv hx hb hr hlocks hK hP hD hS dX1_requireDrain_21 (rfl)

abbrev rmX1_requireDrain_no : Room := { frames := 6, cells := 1, slots := 6, locals := 100 }
set_option maxHeartbeats 4000000 in
set_option maxRecDepth 100000 in
theorem c_X1_requireDrain_no (l : Launch) (hl9 : l.stackTraces = false) (D : va_G) (cI cZ cL : ClassId) (ob h : Nat) (a : Nat → Nat) (h2 : Nat) (a2 : Nat → Nat) (σ τ : Sg) (x : Int32) (hrr : hasF 1 σ x = 0) : MT l yX1_requireDrain cX1_requireDrain 2 none rmX1_requireDrain_no D (tZ cI cZ cL) [.ref ob, .int x] ((oC ob h h2) ++ ((mC cI cZ h a σ) ++ (mC cI cZ h2 a2 τ))) eIOB := by
  refine MT.of (by decide) (Nat.le_of_ble_eq_true rfl) ?_
  intro p e s m args below meth c A ls Q hx hb hml hr hts hown hlocks hA hP hD hK hS hl hQ hE htab
  have hown : s.vm.findClass RX1 = some m.cls := hown
  have hl : lv_has ls 2 [(0, .ref ob), (1, .int x)] := hl
  refine lv_aload_n hx hb dX1_requireDrain_0 rfl (lv_at hl 0 rfl) ?_
  refine x_get (C := RX1) (T := TX1) (N := 2) hx hb hts in_wsX10 hown hK hP 0 rfl rfl 0 (by decide) q128 (v := .ref h) rfl dX1_requireDrain_1 ?_
  refine lv_iload_n hx hb dX1_requireDrain_4 rfl (lv_at hl 1 rfl) ?_
  refine MC.callV (C := RX0) (T := TX0) (N := 16) (As := [.int x]) (rest := []) (wB := (oC ob h h2) ++ ((mC cI cZ h a σ) ++ (mC cI cZ h2 a2 τ))) (c_X0_hasDrain l D cI cZ cL h a σ x 0 hrr) ⟨hx, hb, hml, hown, hts⟩ q427 b_X0_hasDrain (n := 1) (by decide +kernel) ⟨Nat.le_of_ble_eq_true rfl, Nat.le_of_ble_eq_true rfl⟩ hK hP hD hS hA (sp1 _ _ _) (sp1 _ _ _) (ci := 0) rfl (q0 := 1) rfl rfl hl.1 rfl (Nat.le_of_ble_eq_true rfl) dX1_requireDrain_5 ⟨Nat.le_of_ble_eq_true rfl, Nat.le_of_ble_eq_true rfl⟩ (fun H locs hP hD hS => ?_)
  refine lv_if_ne (tgt := 21) hx hb dX1_requireDrain_8 (by decide) (fun z => absurd (by decide) z) (fun c_8 => ?_)
  subst hQ
  exact MT.thr (i9 := 4) rfl hx hb hts hl9 hown (by decide +kernel) q368 q46 rfl gd_IOB bd_IOB ot_IOB hE hlocks htab hK hP hD hS (by rw [hml]; exact hl.1) dX1_requireDrain_11 dX1_requireDrain_14 dX1_requireDrain_15 dX1_requireDrain_17 dX1_requireDrain_20 (Nat.le_of_ble_eq_true rfl) (Nat.le_of_ble_eq_true rfl) (Nat.le_of_ble_eq_true rfl) (Nat.le_of_ble_eq_true rfl) (Nat.le_of_ble_eq_true rfl) (Nat.le_of_ble_eq_true rfl)

abbrev rmX1_requireWithin_ok : Room := { frames := 6, cells := 0, slots := 0, locals := 100 }
theorem b_X1_requireWithin : Cond.static yX1_requireWithin ∈ LW ∧ Cond.initialized yX1_requireWithin.cls ∈ LW ∧ Cond.code yX1_requireWithin cX1_requireWithin 3 none ∈ LW := ⟨q278, q38, q279⟩
set_option maxHeartbeats 4000000 in
set_option maxRecDepth 100000 in
theorem c_X1_requireWithin_ok (l : Launch) (D : va_G) (cI cZ cL : ClassId) (x y z : Int32) (h1 : ¬ x < y) (h9 : x ≤ z) : MC l yX1_requireWithin cX1_requireWithin 3 none rmX1_requireWithin_ok D (tZ cI cZ cL) [.int x, .int y, .int z] ([]) ([]) (none) := by
  refine MC.of (by decide) (Nat.le_of_ble_eq_true rfl) ?_
  intro p e s m args below meth c A ls Q hx hb hml hr hts hown hlocks hA hP hD hK hS hl hQ
  have hown : s.vm.findClass RX1 = some m.cls := hown
  have hl : lv_has ls 3 [(0, .int x), (1, .int y), (2, .int z)] := hl
  refine lv_iload_n hx hb dX1_requireWithin_0 rfl (lv_at hl 0 rfl) ?_
  refine lv_iload_n hx hb dX1_requireWithin_1 rfl (lv_at hl 1 rfl) ?_
  refine lv_icmp_lt (tgt := 10) hx hb dX1_requireWithin_2 (by decide) (fun z => absurd z (h1)) (fun c_2 => ?_)
  refine lv_iload_n hx hb dX1_requireWithin_5 rfl (lv_at hl 0 rfl) ?_
  refine lv_iload_n hx hb dX1_requireWithin_6 rfl (lv_at hl 2 rfl) ?_
  refine lv_icmp_le (tgt := 20) hx hb dX1_requireWithin_7 (by decide) (fun c_7 => ?_) (fun z => absurd (h9) z)
  subst hQ
  exact rv hx hb hr hlocks hK hP hD hS dX1_requireWithin_20 (rfl)

abbrev rmX1_requireWithin_no : Room := { frames := 6, cells := 1, slots := 6, locals := 100 }
set_option maxHeartbeats 4000000 in
set_option maxRecDepth 100000 in
theorem c_X1_requireWithin_no (l : Launch) (hl9 : l.stackTraces = false) (D : va_G) (cI cZ cL : ClassId) (x y z : Int32) (hrr : inR x y z = 0) : MT l yX1_requireWithin cX1_requireWithin 3 none rmX1_requireWithin_no D (tZ cI cZ cL) [.int x, .int y, .int z] ([]) eIAE := by
  refine MT.of (by decide) (Nat.le_of_ble_eq_true rfl) ?_
  intro p e s m args below meth c A ls Q hx hb hml hr hts hown hlocks hA hP hD hK hS hl hQ hE htab
  have hown : s.vm.findClass RX1 = some m.cls := hown
  have hl : lv_has ls 3 [(0, .int x), (1, .int y), (2, .int z)] := hl
  refine lv_iload_n hx hb dX1_requireWithin_0 rfl (lv_at hl 0 rfl) ?_
  refine lv_iload_n hx hb dX1_requireWithin_1 rfl (lv_at hl 1 rfl) ?_
  refine lv_icmp_lt (tgt := 10) hx hb dX1_requireWithin_2 (by decide) (fun c_2 => ?_) (fun c_2 => ?_)
  · subst hQ
    exact MT.thr (i9 := 5) rfl hx hb hts hl9 hown (by decide +kernel) q280 q44 rfl gd_IAE bd_IAE ot_IAE hE hlocks htab hK hP hD hS (by rw [hml]; exact hl.1) dX1_requireWithin_10 dX1_requireWithin_13 dX1_requireWithin_14 dX1_requireWithin_16 dX1_requireWithin_19 (Nat.le_of_ble_eq_true rfl) (Nat.le_of_ble_eq_true rfl) (Nat.le_of_ble_eq_true rfl) (Nat.le_of_ble_eq_true rfl) (Nat.le_of_ble_eq_true rfl) (Nat.le_of_ble_eq_true rfl)
  · refine lv_iload_n hx hb dX1_requireWithin_5 rfl (lv_at hl 0 rfl) ?_
    refine lv_iload_n hx hb dX1_requireWithin_6 rfl (lv_at hl 2 rfl) ?_
    refine lv_icmp_le (tgt := 20) hx hb dX1_requireWithin_7 (by decide) (fun c_7 => ?_) (fun c_7 => ?_)
    · exact absurd hrr (by unfold inR; rw [if_pos (Int32.not_lt.mp c_2), if_pos c_7]; decide)
    · subst hQ
      exact MT.thr (i9 := 5) rfl hx hb hts hl9 hown (by decide +kernel) q280 q44 rfl gd_IAE bd_IAE ot_IAE hE hlocks htab hK hP hD hS (by rw [hml]; exact hl.1) dX1_requireWithin_10 dX1_requireWithin_13 dX1_requireWithin_14 dX1_requireWithin_16 dX1_requireWithin_19 (Nat.le_of_ble_eq_true rfl) (Nat.le_of_ble_eq_true rfl) (Nat.le_of_ble_eq_true rfl) (Nat.le_of_ble_eq_true rfl) (Nat.le_of_ble_eq_true rfl) (Nat.le_of_ble_eq_true rfl)

abbrev rmX1_addField_a : Room := { frames := 7, cells := 1, slots := 6, locals := 122 }
theorem b_X1_addField : Cond.instanceMethod yX1_addField ∈ LW ∧ Cond.selects RX1 yX1_addField yX1_addField ∈ LW ∧ Cond.initialized RX1 ∈ LW ∧ Cond.code yX1_addField cX1_addField 4 (some .int) ∈ LW := ⟨q445, q446, q38, q447⟩
set_option maxHeartbeats 4000000 in
set_option maxRecDepth 100000 in
theorem c_X1_addField_a (l : Launch) (hl9 : l.stackTraces = false) (D : va_G) (cI cZ cL : ClassId) {n k : Nat} (ob h : Nat) (a : Nat → Nat) (h2 : Nat) (a2 : Nat → Nat) (σ τ : Sg) (hst : Shp n k σ) (p0 p1 : Int32) (hr0 : inR p0 0 20 = 0) : MT l yX1_addField cX1_addField 4 (some .int) rmX1_addField_a D (tZ cI cZ cL) [.ref ob, .int p0, .int p1] ((oC ob h h2) ++ ((mC cI cZ h a σ) ++ (mC cI cZ h2 a2 τ))) eIAE := by
  refine MT.of (by decide) (Nat.le_of_ble_eq_true rfl) ?_
  intro p e s m args below meth c A ls Q hx hb hml hr hts hown hlocks hA hP hD hK hS hl hQ hE htab
  have hown : s.vm.findClass RX1 = some m.cls := hown
  have hl : lv_has ls 4 [(0, .ref ob), (1, .int p0), (2, .int p1)] := hl
  refine lv_iload_n hx hb dX1_addField_0 rfl (lv_at hl 1 rfl) ?_
  refine lv_iconst (v := 0) hx hb dX1_addField_1 (by decide) ?_
  refine lv_bipush (v := 20) hx hb dX1_addField_2 (by decide) ?_
  refine MT.callS (As := [.int p0, .int 0, .int 20]) (rest := []) (c_X1_requireWithin_no l hl9 D cI cZ cL p0 0 20 hr0) ⟨hx, hb, hml, hown, hts⟩ q277 b_X1_requireWithin (n := 3) (by decide +kernel) ⟨Nat.le_of_ble_eq_true rfl, Nat.le_of_ble_eq_true rfl⟩ hK hP hD hS hA hE (spE _) rfl hl.1 rfl (Nat.le_of_ble_eq_true rfl) dX1_addField_4 ⟨Nat.le_of_ble_eq_true rfl, Nat.le_of_ble_eq_true rfl⟩ (fun ce q9 H locs hP hD hS hce hcv hcl => ?_)
  subst hQ
  exact MT.out hlocks htab hK hP hD hS hce hcv hcl (Nat.le_of_ble_eq_true rfl) (Nat.le_of_ble_eq_true rfl)

abbrev rmX1_addField_b : Room := { frames := 7, cells := 1, slots := 6, locals := 122 }
set_option maxHeartbeats 4000000 in
set_option maxRecDepth 100000 in
theorem c_X1_addField_b (l : Launch) (hl9 : l.stackTraces = false) (D : va_G) (cI cZ cL : ClassId) {n k : Nat} (ob h : Nat) (a : Nat → Nat) (h2 : Nat) (a2 : Nat → Nat) (σ τ : Sg) (hst : Shp n k σ) (p0 p1 : Int32) (hr0 : ¬ inR p0 0 20 = 0) (hr1 : inR p1 0 99 = 0) : MT l yX1_addField cX1_addField 4 (some .int) rmX1_addField_b D (tZ cI cZ cL) [.ref ob, .int p0, .int p1] ((oC ob h h2) ++ ((mC cI cZ h a σ) ++ (mC cI cZ h2 a2 τ))) eIAE := by
  refine MT.of (by decide) (Nat.le_of_ble_eq_true rfl) ?_
  intro p e s m args below meth c A ls Q hx hb hml hr hts hown hlocks hA hP hD hK hS hl hQ hE htab
  have hown : s.vm.findClass RX1 = some m.cls := hown
  have hl : lv_has ls 4 [(0, .ref ob), (1, .int p0), (2, .int p1)] := hl
  refine lv_iload_n hx hb dX1_addField_0 rfl (lv_at hl 1 rfl) ?_
  refine lv_iconst (v := 0) hx hb dX1_addField_1 (by decide) ?_
  refine lv_bipush (v := 20) hx hb dX1_addField_2 (by decide) ?_
  refine MC.callS (As := [.int p0, .int 0, .int 20]) (rest := []) (wB := (oC ob h h2) ++ ((mC cI cZ h a σ) ++ (mC cI cZ h2 a2 τ))) (c_X1_requireWithin_ok l D cI cZ cL p0 0 20 (inR_1 hr0).1 (inR_1 hr0).2) ⟨hx, hb, hml, hown, hts⟩ q277 b_X1_requireWithin (n := 3) (by decide +kernel) ⟨Nat.le_of_ble_eq_true rfl, Nat.le_of_ble_eq_true rfl⟩ hK hP hD hS hA (spE _) (spE _) rfl hl.1 rfl (Nat.le_of_ble_eq_true rfl) dX1_addField_4 ⟨Nat.le_of_ble_eq_true rfl, Nat.le_of_ble_eq_true rfl⟩ (fun H locs hP hD hS => ?_)
  refine lv_iload_n hx hb dX1_addField_7 rfl (lv_at hl 2 rfl) ?_
  refine lv_iconst (v := 0) hx hb dX1_addField_8 (by decide) ?_
  refine lv_bipush (v := 99) hx hb dX1_addField_9 (by decide) ?_
  refine MT.callS (As := [.int p1, .int 0, .int 99]) (rest := []) (c_X1_requireWithin_no l hl9 D cI cZ cL p1 0 99 hr1) ⟨hx, hb, hml, hown, hts⟩ q277 b_X1_requireWithin (n := 3) (by decide +kernel) ⟨Nat.le_of_ble_eq_true rfl, Nat.le_of_ble_eq_true rfl⟩ hK hP hD hS hA hE (spE _) rfl hl.1 rfl (Nat.le_of_ble_eq_true rfl) dX1_addField_11 ⟨Nat.le_of_ble_eq_true rfl, Nat.le_of_ble_eq_true rfl⟩ (fun ce q9 H locs hP hD hS hce hcv hcl => ?_)
  subst hQ
  exact MT.out hlocks htab hK hP hD hS hce hcv hcl (Nat.le_of_ble_eq_true rfl) (Nat.le_of_ble_eq_true rfl)

abbrev rmX1_addField_c : Room := { frames := 7, cells := 1, slots := 6, locals := 122 }
set_option maxHeartbeats 4000000 in
set_option maxRecDepth 100000 in
theorem c_X1_addField_c (l : Launch) (hl9 : l.stackTraces = false) (D : va_G) (cI cZ cL : ClassId) {n k : Nat} (ob h : Nat) (a : Nat → Nat) (h2 : Nat) (a2 : Nat → Nat) (σ τ : Sg) (hst : Shp n k σ) (p0 p1 : Int32) (hr0 : ¬ inR p0 0 20 = 0) (hr1 : ¬ inR p1 0 99 = 0) (hn9 : n = 10) : MT l yX1_addField cX1_addField 4 (some .int) rmX1_addField_c D (tZ cI cZ cL) [.ref ob, .int p0, .int p1] ((oC ob h h2) ++ ((mC cI cZ h a σ) ++ (mC cI cZ h2 a2 τ))) eISE := by
  refine MT.of (by decide) (Nat.le_of_ble_eq_true rfl) ?_
  intro p e s m args below meth c A ls Q hx hb hml hr hts hown hlocks hA hP hD hK hS hl hQ hE htab
  have hown : s.vm.findClass RX1 = some m.cls := hown
  have hn10 := hst.1
  have hk16 := hst.2.1
  have hl : lv_has ls 4 [(0, .ref ob), (1, .int p0), (2, .int p1)] := hl
  refine lv_iload_n hx hb dX1_addField_0 rfl (lv_at hl 1 rfl) ?_
  refine lv_iconst (v := 0) hx hb dX1_addField_1 (by decide) ?_
  refine lv_bipush (v := 20) hx hb dX1_addField_2 (by decide) ?_
  refine MC.callS (As := [.int p0, .int 0, .int 20]) (rest := []) (wB := (oC ob h h2) ++ ((mC cI cZ h a σ) ++ (mC cI cZ h2 a2 τ))) (c_X1_requireWithin_ok l D cI cZ cL p0 0 20 (inR_1 hr0).1 (inR_1 hr0).2) ⟨hx, hb, hml, hown, hts⟩ q277 b_X1_requireWithin (n := 3) (by decide +kernel) ⟨Nat.le_of_ble_eq_true rfl, Nat.le_of_ble_eq_true rfl⟩ hK hP hD hS hA (spE _) (spE _) rfl hl.1 rfl (Nat.le_of_ble_eq_true rfl) dX1_addField_4 ⟨Nat.le_of_ble_eq_true rfl, Nat.le_of_ble_eq_true rfl⟩ (fun H locs hP hD hS => ?_)
  refine lv_iload_n hx hb dX1_addField_7 rfl (lv_at hl 2 rfl) ?_
  refine lv_iconst (v := 0) hx hb dX1_addField_8 (by decide) ?_
  refine lv_bipush (v := 99) hx hb dX1_addField_9 (by decide) ?_
  refine MC.callS (As := [.int p1, .int 0, .int 99]) (rest := []) (wB := (oC ob h h2) ++ ((mC cI cZ h a σ) ++ (mC cI cZ h2 a2 τ))) (c_X1_requireWithin_ok l D cI cZ cL p1 0 99 (inR_1 hr1).1 (inR_1 hr1).2) ⟨hx, hb, hml, hown, hts⟩ q277 b_X1_requireWithin (n := 3) (by decide +kernel) ⟨Nat.le_of_ble_eq_true rfl, Nat.le_of_ble_eq_true rfl⟩ hK hP hD hS hA (spE _) (spE _) rfl hl.1 rfl (Nat.le_of_ble_eq_true rfl) dX1_addField_11 ⟨Nat.le_of_ble_eq_true rfl, Nat.le_of_ble_eq_true rfl⟩ (fun H locs hP hD hS => ?_)
  refine lv_aload_n hx hb dX1_addField_14 rfl (lv_at hl 0 rfl) ?_
  refine x_get (C := RX1) (T := TX1) (N := 2) hx hb hts in_wsX10 hown hK hP 0 rfl rfl 0 (by decide) q128 (v := .ref h) rfl dX1_addField_15 ?_
  refine lv_iload_n hx hb dX1_addField_18 rfl (lv_at hl 1 rfl) ?_
  refine lv_iload_n hx hb dX1_addField_19 rfl (lv_at hl 2 rfl) ?_
  refine MC.callV (C := RX0) (T := TX0) (N := 16) (As := [.int p0, .int p1]) (rest := []) (wB := (oC ob h h2) ++ ((mC cI cZ h a (putF n p0 p1 σ)) ++ (mC cI cZ h2 a2 τ))) (c_X0_putField l D cI cZ cL h a σ hst p0 p1) ⟨hx, hb, hml, hown, hts⟩ q448 b_X0_putField (n := 2) (by decide +kernel) ⟨Nat.le_of_ble_eq_true rfl, Nat.le_of_ble_eq_true rfl⟩ hK hP hD hS hA (sp1 _ _ _) (sp1 _ _ _) (ci := 0) rfl (q0 := 1) rfl rfl hl.1 rfl (Nat.le_of_ble_eq_true rfl) dX1_addField_20 ⟨Nat.le_of_ble_eq_true rfl, Nat.le_of_ble_eq_true rfl⟩ (fun H locs hP hD hS => ?_)
  rw [putF_10 hn9] at hP hD
  refine x_top (if_pos (by omega)) ?_
  refine lv_istore_n (lv' := [(3, .int (-1)), (0, .ref ob), (1, .int p0), (2, .int p1)]) hx hb dX1_addField_23 rfl hl (by decide) rfl (fun ls hl => ?_)
  refine lv_iload_n hx hb dX1_addField_24 rfl (lv_at hl 0 rfl) ?_
  refine lv_iconst (v := (-1)) hx hb dX1_addField_25 (by decide) ?_
  refine lv_icmp_ne (tgt := 39) hx hb dX1_addField_26 (by decide) (fun z => absurd (by decide) z) (fun c_26 => ?_)
  subst hQ
  exact MT.thr (i9 := 0) rfl hx hb hts hl9 hown (by decide +kernel) q452 q45 rfl gd_ISE bd_ISE ot_ISE hE hlocks htab hK hP hD hS (by rw [hml]; exact hl.1) dX1_addField_29 dX1_addField_32 dX1_addField_33 dX1_addField_35 dX1_addField_38 (Nat.le_of_ble_eq_true rfl) (Nat.le_of_ble_eq_true rfl) (Nat.le_of_ble_eq_true rfl) (Nat.le_of_ble_eq_true rfl) (Nat.le_of_ble_eq_true rfl) (Nat.le_of_ble_eq_true rfl)

abbrev rmX1_addField_d : Room := { frames := 7, cells := 0, slots := 0, locals := 122 }
set_option maxHeartbeats 4000000 in
set_option maxRecDepth 100000 in
theorem c_X1_addField_d (l : Launch) (D : va_G) (cI cZ cL : ClassId) {n k : Nat} (ob h : Nat) (a : Nat → Nat) (h2 : Nat) (a2 : Nat → Nat) (σ τ : Sg) (hst : Shp n k σ) (p0 p1 : Int32) (hr0 : ¬ inR p0 0 20 = 0) (hr1 : ¬ inR p1 0 99 = 0) (hn9 : ¬ n = 10) : MX l yX1_addField cX1_addField 4 (some .int) rmX1_addField_d D (tZ cI cZ cL) [.ref ob, .int p0, .int p1] ((oC ob h h2) ++ ((mC cI cZ h a σ) ++ (mC cI cZ h2 a2 τ))) (fun ρ => (oC ob h h2) ++ ((mC cI cZ h a (putF n p0 p1 σ)) ++ (mC cI cZ h2 a2 ρ))) (some (.int (nI n))) := by
  refine MX.of (by decide) (Nat.le_of_ble_eq_true rfl) ?_
  intro p e s m args below meth c A ls Q hx hb hml hr hts hown hlocks hA hP hD hK hS hl hQ hE
  have hown : s.vm.findClass RX1 = some m.cls := hown
  have hn10 := hst.1
  have hk16 := hst.2.1
  have hl : lv_has ls 4 [(0, .ref ob), (1, .int p0), (2, .int p1)] := hl
  refine lv_iload_n hx hb dX1_addField_0 rfl (lv_at hl 1 rfl) ?_
  refine lv_iconst (v := 0) hx hb dX1_addField_1 (by decide) ?_
  refine lv_bipush (v := 20) hx hb dX1_addField_2 (by decide) ?_
  refine MC.callS (As := [.int p0, .int 0, .int 20]) (rest := []) (wB := (oC ob h h2) ++ ((mC cI cZ h a σ) ++ (mC cI cZ h2 a2 τ))) (c_X1_requireWithin_ok l D cI cZ cL p0 0 20 (inR_1 hr0).1 (inR_1 hr0).2) ⟨hx, hb, hml, hown, hts⟩ q277 b_X1_requireWithin (n := 3) (by decide +kernel) ⟨Nat.le_of_ble_eq_true rfl, Nat.le_of_ble_eq_true rfl⟩ hK hP hD hS hA (spE _) (spE _) rfl hl.1 rfl (Nat.le_of_ble_eq_true rfl) dX1_addField_4 ⟨Nat.le_of_ble_eq_true rfl, Nat.le_of_ble_eq_true rfl⟩ (fun H locs hP hD hS => ?_)
  refine lv_iload_n hx hb dX1_addField_7 rfl (lv_at hl 2 rfl) ?_
  refine lv_iconst (v := 0) hx hb dX1_addField_8 (by decide) ?_
  refine lv_bipush (v := 99) hx hb dX1_addField_9 (by decide) ?_
  refine MC.callS (As := [.int p1, .int 0, .int 99]) (rest := []) (wB := (oC ob h h2) ++ ((mC cI cZ h a σ) ++ (mC cI cZ h2 a2 τ))) (c_X1_requireWithin_ok l D cI cZ cL p1 0 99 (inR_1 hr1).1 (inR_1 hr1).2) ⟨hx, hb, hml, hown, hts⟩ q277 b_X1_requireWithin (n := 3) (by decide +kernel) ⟨Nat.le_of_ble_eq_true rfl, Nat.le_of_ble_eq_true rfl⟩ hK hP hD hS hA (spE _) (spE _) rfl hl.1 rfl (Nat.le_of_ble_eq_true rfl) dX1_addField_11 ⟨Nat.le_of_ble_eq_true rfl, Nat.le_of_ble_eq_true rfl⟩ (fun H locs hP hD hS => ?_)
  refine lv_aload_n hx hb dX1_addField_14 rfl (lv_at hl 0 rfl) ?_
  refine x_get (C := RX1) (T := TX1) (N := 2) hx hb hts in_wsX10 hown hK hP 0 rfl rfl 0 (by decide) q128 (v := .ref h) rfl dX1_addField_15 ?_
  refine lv_iload_n hx hb dX1_addField_18 rfl (lv_at hl 1 rfl) ?_
  refine lv_iload_n hx hb dX1_addField_19 rfl (lv_at hl 2 rfl) ?_
  refine MC.callV (C := RX0) (T := TX0) (N := 16) (As := [.int p0, .int p1]) (rest := []) (wB := (oC ob h h2) ++ ((mC cI cZ h a (putF n p0 p1 σ)) ++ (mC cI cZ h2 a2 τ))) (c_X0_putField l D cI cZ cL h a σ hst p0 p1) ⟨hx, hb, hml, hown, hts⟩ q448 b_X0_putField (n := 2) (by decide +kernel) ⟨Nat.le_of_ble_eq_true rfl, Nat.le_of_ble_eq_true rfl⟩ hK hP hD hS hA (sp1 _ _ _) (sp1 _ _ _) (ci := 0) rfl (q0 := 1) rfl rfl hl.1 rfl (Nat.le_of_ble_eq_true rfl) dX1_addField_20 ⟨Nat.le_of_ble_eq_true rfl, Nat.le_of_ble_eq_true rfl⟩ (fun H locs hP hD hS => ?_)
  refine x_top (if_neg (by omega)) ?_
  refine lv_istore_n (lv' := [(3, .int (nI n)), (0, .ref ob), (1, .int p0), (2, .int p1)]) hx hb dX1_addField_23 rfl hl (by decide) rfl (fun ls hl => ?_)
  refine lv_iload_n hx hb dX1_addField_24 rfl (lv_at hl 0 rfl) ?_
  refine lv_iconst (v := (-1)) hx hb dX1_addField_25 (by decide) ?_
  refine lv_icmp_ne (tgt := 39) hx hb dX1_addField_26 (by decide) (fun c_26 => ?_) (fun z => absurd z (nI_ne_m1 (by omega)))
  refine lv_iload_n hx hb dX1_addField_39 rfl (lv_at hl 0 rfl) ?_
  subst hQ
  exact xri τ hx hb hr hlocks hK hP hD hS dX1_addField_40 (rfl) (rfl)

abbrev rmX1_addDrain_a : Room := { frames := 7, cells := 1, slots := 6, locals := 122 }
theorem b_X1_addDrain : Cond.instanceMethod yX1_addDrain ∈ LW ∧ Cond.selects RX1 yX1_addDrain yX1_addDrain ∈ LW ∧ Cond.initialized RX1 ∈ LW ∧ Cond.code yX1_addDrain cX1_addDrain 6 (some .int) ∈ LW := ⟨q478, q7, q38, q479⟩
set_option maxHeartbeats 4000000 in
set_option maxRecDepth 100000 in
theorem c_X1_addDrain_a (l : Launch) (hl9 : l.stackTraces = false) (D : va_G) (cI cZ cL : ClassId) {n k : Nat} (ob h : Nat) (a : Nat → Nat) (h2 : Nat) (a2 : Nat → Nat) (σ τ : Sg) (hst : Shp n k σ) (p0 p1 p2 y : Int32) (h0 : p0 = p1) : MT l yX1_addDrain cX1_addDrain 6 (some .int) rmX1_addDrain_a D (tZ cI cZ cL) [.ref ob, .int p0, .int p1, .int p2, .int y] ((oC ob h h2) ++ ((mC cI cZ h a σ) ++ (mC cI cZ h2 a2 τ))) eIAE := by
  refine MT.of (by decide) (Nat.le_of_ble_eq_true rfl) ?_
  intro p e s m args below meth c A ls Q hx hb hml hr hts hown hlocks hA hP hD hK hS hl hQ hE htab
  have hown : s.vm.findClass RX1 = some m.cls := hown
  have hl : lv_has ls 6 [(0, .ref ob), (1, .int p0), (2, .int p1), (3, .int p2), (4, .int y)] := hl
  refine lv_iload_n hx hb dX1_addDrain_0 rfl (lv_at hl 1 rfl) ?_
  refine lv_iload_n hx hb dX1_addDrain_1 rfl (lv_at hl 2 rfl) ?_
  refine lv_icmp_ne (tgt := 15) hx hb dX1_addDrain_2 (by decide) (fun z => absurd (h0) z) (fun c_2 => ?_)
  subst hQ
  exact MT.thr (i9 := 1) rfl hx hb hts hl9 hown (by decide +kernel) q280 q44 rfl gd_IAE bd_IAE ot_IAE hE hlocks htab hK hP hD hS (by rw [hml]; exact hl.1) dX1_addDrain_5 dX1_addDrain_8 dX1_addDrain_9 dX1_addDrain_11 dX1_addDrain_14 (Nat.le_of_ble_eq_true rfl) (Nat.le_of_ble_eq_true rfl) (Nat.le_of_ble_eq_true rfl) (Nat.le_of_ble_eq_true rfl) (Nat.le_of_ble_eq_true rfl) (Nat.le_of_ble_eq_true rfl)

abbrev rmX1_addDrain_b : Room := { frames := 7, cells := 1, slots := 6, locals := 122 }
set_option maxHeartbeats 4000000 in
set_option maxRecDepth 100000 in
theorem c_X1_addDrain_b (l : Launch) (hl9 : l.stackTraces = false) (D : va_G) (cI cZ cL : ClassId) {n k : Nat} (ob h : Nat) (a : Nat → Nat) (h2 : Nat) (a2 : Nat → Nat) (σ τ : Sg) (hst : Shp n k σ) (p0 p1 p2 y : Int32) (h0 : ¬ p0 = p1) (hr1 : inR p2 1 9 = 0) : MT l yX1_addDrain cX1_addDrain 6 (some .int) rmX1_addDrain_b D (tZ cI cZ cL) [.ref ob, .int p0, .int p1, .int p2, .int y] ((oC ob h h2) ++ ((mC cI cZ h a σ) ++ (mC cI cZ h2 a2 τ))) eIAE := by
  refine MT.of (by decide) (Nat.le_of_ble_eq_true rfl) ?_
  intro p e s m args below meth c A ls Q hx hb hml hr hts hown hlocks hA hP hD hK hS hl hQ hE htab
  have hown : s.vm.findClass RX1 = some m.cls := hown
  have hl : lv_has ls 6 [(0, .ref ob), (1, .int p0), (2, .int p1), (3, .int p2), (4, .int y)] := hl
  refine lv_iload_n hx hb dX1_addDrain_0 rfl (lv_at hl 1 rfl) ?_
  refine lv_iload_n hx hb dX1_addDrain_1 rfl (lv_at hl 2 rfl) ?_
  refine lv_icmp_ne (tgt := 15) hx hb dX1_addDrain_2 (by decide) (fun c_2 => ?_) (fun z => absurd z (h0))
  refine lv_iload_n hx hb dX1_addDrain_15 rfl (lv_at hl 3 rfl) ?_
  refine lv_iconst (v := 1) hx hb dX1_addDrain_16 (by decide) ?_
  refine lv_bipush (v := 9) hx hb dX1_addDrain_17 (by decide) ?_
  refine MT.callS (As := [.int p2, .int 1, .int 9]) (rest := []) (c_X1_requireWithin_no l hl9 D cI cZ cL p2 1 9 hr1) ⟨hx, hb, hml, hown, hts⟩ q277 b_X1_requireWithin (n := 3) (by decide +kernel) ⟨Nat.le_of_ble_eq_true rfl, Nat.le_of_ble_eq_true rfl⟩ hK hP hD hS hA hE (spE _) rfl hl.1 rfl (Nat.le_of_ble_eq_true rfl) dX1_addDrain_19 ⟨Nat.le_of_ble_eq_true rfl, Nat.le_of_ble_eq_true rfl⟩ (fun ce q9 H locs hP hD hS hce hcv hcl => ?_)
  subst hQ
  exact MT.out hlocks htab hK hP hD hS hce hcv hcl (Nat.le_of_ble_eq_true rfl) (Nat.le_of_ble_eq_true rfl)

abbrev rmX1_addDrain_c : Room := { frames := 7, cells := 1, slots := 6, locals := 122 }
set_option maxHeartbeats 4000000 in
set_option maxRecDepth 100000 in
theorem c_X1_addDrain_c (l : Launch) (hl9 : l.stackTraces = false) (D : va_G) (cI cZ cL : ClassId) {n k : Nat} (ob h : Nat) (a : Nat → Nat) (h2 : Nat) (a2 : Nat → Nat) (σ τ : Sg) (hst : Shp n k σ) (p0 p1 p2 y : Int32) (hy : y = 0 ∨ y = 1) (h0 : ¬ p0 = p1) (hr1 : ¬ inR p2 1 9 = 0) (hk9 : k = 16) : MT l yX1_addDrain cX1_addDrain 6 (some .int) rmX1_addDrain_c D (tZ cI cZ cL) [.ref ob, .int p0, .int p1, .int p2, .int y] ((oC ob h h2) ++ ((mC cI cZ h a σ) ++ (mC cI cZ h2 a2 τ))) eISE := by
  refine MT.of (by decide) (Nat.le_of_ble_eq_true rfl) ?_
  intro p e s m args below meth c A ls Q hx hb hml hr hts hown hlocks hA hP hD hK hS hl hQ hE htab
  have hown : s.vm.findClass RX1 = some m.cls := hown
  have hn10 := hst.1
  have hk16 := hst.2.1
  have hl : lv_has ls 6 [(0, .ref ob), (1, .int p0), (2, .int p1), (3, .int p2), (4, .int y)] := hl
  refine lv_iload_n hx hb dX1_addDrain_0 rfl (lv_at hl 1 rfl) ?_
  refine lv_iload_n hx hb dX1_addDrain_1 rfl (lv_at hl 2 rfl) ?_
  refine lv_icmp_ne (tgt := 15) hx hb dX1_addDrain_2 (by decide) (fun c_2 => ?_) (fun z => absurd z (h0))
  refine lv_iload_n hx hb dX1_addDrain_15 rfl (lv_at hl 3 rfl) ?_
  refine lv_iconst (v := 1) hx hb dX1_addDrain_16 (by decide) ?_
  refine lv_bipush (v := 9) hx hb dX1_addDrain_17 (by decide) ?_
  refine MC.callS (As := [.int p2, .int 1, .int 9]) (rest := []) (wB := (oC ob h h2) ++ ((mC cI cZ h a σ) ++ (mC cI cZ h2 a2 τ))) (c_X1_requireWithin_ok l D cI cZ cL p2 1 9 (inR_1 hr1).1 (inR_1 hr1).2) ⟨hx, hb, hml, hown, hts⟩ q277 b_X1_requireWithin (n := 3) (by decide +kernel) ⟨Nat.le_of_ble_eq_true rfl, Nat.le_of_ble_eq_true rfl⟩ hK hP hD hS hA (spE _) (spE _) rfl hl.1 rfl (Nat.le_of_ble_eq_true rfl) dX1_addDrain_19 ⟨Nat.le_of_ble_eq_true rfl, Nat.le_of_ble_eq_true rfl⟩ (fun H locs hP hD hS => ?_)
  refine lv_aload_n hx hb dX1_addDrain_22 rfl (lv_at hl 0 rfl) ?_
  refine x_get (C := RX1) (T := TX1) (N := 2) hx hb hts in_wsX10 hown hK hP 0 rfl rfl 0 (by decide) q128 (v := .ref h) rfl dX1_addDrain_23 ?_
  refine lv_iload_n hx hb dX1_addDrain_26 rfl (lv_at hl 1 rfl) ?_
  refine lv_iload_n hx hb dX1_addDrain_27 rfl (lv_at hl 2 rfl) ?_
  refine lv_iload_n hx hb dX1_addDrain_28 rfl (lv_at hl 3 rfl) ?_
  refine lv_iload hx hb dX1_addDrain_29 (lv_at hl 4 rfl) ?_
  refine MC.callV (C := RX0) (T := TX0) (N := 16) (As := [.int p0, .int p1, .int p2, .int y]) (rest := []) (wB := (oC ob h h2) ++ ((mC cI cZ h a (putD k p0 p1 p2 y σ)) ++ (mC cI cZ h2 a2 τ))) (c_X0_putDrain l D cI cZ cL h a σ hst p0 p1 p2 y hy) ⟨hx, hb, hml, hown, hts⟩ q481 b_X0_putDrain (n := 4) (by decide +kernel) ⟨Nat.le_of_ble_eq_true rfl, Nat.le_of_ble_eq_true rfl⟩ hK hP hD hS hA (sp1 _ _ _) (sp1 _ _ _) (ci := 0) rfl (q0 := 1) rfl rfl hl.1 rfl (Nat.le_of_ble_eq_true rfl) dX1_addDrain_31 ⟨Nat.le_of_ble_eq_true rfl, Nat.le_of_ble_eq_true rfl⟩ (fun H locs hP hD hS => ?_)
  rw [putD_16 hk9] at hP hD
  refine x_top (if_pos (by omega)) ?_
  refine lv_istore (lv' := [(5, .int (-1)), (0, .ref ob), (1, .int p0), (2, .int p1), (3, .int p2), (4, .int y)]) hx hb dX1_addDrain_34 hl (by decide) rfl (fun ls hl => ?_)
  refine lv_iload hx hb dX1_addDrain_36 (lv_at hl 0 rfl) ?_
  refine lv_iconst (v := (-1)) hx hb dX1_addDrain_38 (by decide) ?_
  refine lv_icmp_ne (tgt := 52) hx hb dX1_addDrain_39 (by decide) (fun z => absurd (by decide) z) (fun c_39 => ?_)
  subst hQ
  exact MT.thr (i9 := 2) rfl hx hb hts hl9 hown (by decide +kernel) q452 q45 rfl gd_ISE bd_ISE ot_ISE hE hlocks htab hK hP hD hS (by rw [hml]; exact hl.1) dX1_addDrain_42 dX1_addDrain_45 dX1_addDrain_46 dX1_addDrain_48 dX1_addDrain_51 (Nat.le_of_ble_eq_true rfl) (Nat.le_of_ble_eq_true rfl) (Nat.le_of_ble_eq_true rfl) (Nat.le_of_ble_eq_true rfl) (Nat.le_of_ble_eq_true rfl) (Nat.le_of_ble_eq_true rfl)

abbrev rmX1_addDrain_d : Room := { frames := 7, cells := 0, slots := 0, locals := 122 }
set_option maxHeartbeats 4000000 in
set_option maxRecDepth 100000 in
theorem c_X1_addDrain_d (l : Launch) (D : va_G) (cI cZ cL : ClassId) {n k : Nat} (ob h : Nat) (a : Nat → Nat) (h2 : Nat) (a2 : Nat → Nat) (σ τ : Sg) (hst : Shp n k σ) (p0 p1 p2 y : Int32) (hy : y = 0 ∨ y = 1) (h0 : ¬ p0 = p1) (hr1 : ¬ inR p2 1 9 = 0) (hk9 : ¬ k = 16) : MX l yX1_addDrain cX1_addDrain 6 (some .int) rmX1_addDrain_d D (tZ cI cZ cL) [.ref ob, .int p0, .int p1, .int p2, .int y] ((oC ob h h2) ++ ((mC cI cZ h a σ) ++ (mC cI cZ h2 a2 τ))) (fun ρ => (oC ob h h2) ++ ((mC cI cZ h a (putD k p0 p1 p2 y σ)) ++ (mC cI cZ h2 a2 ρ))) (some (.int (nI k))) := by
  refine MX.of (by decide) (Nat.le_of_ble_eq_true rfl) ?_
  intro p e s m args below meth c A ls Q hx hb hml hr hts hown hlocks hA hP hD hK hS hl hQ hE
  have hown : s.vm.findClass RX1 = some m.cls := hown
  have hn10 := hst.1
  have hk16 := hst.2.1
  have hl : lv_has ls 6 [(0, .ref ob), (1, .int p0), (2, .int p1), (3, .int p2), (4, .int y)] := hl
  refine lv_iload_n hx hb dX1_addDrain_0 rfl (lv_at hl 1 rfl) ?_
  refine lv_iload_n hx hb dX1_addDrain_1 rfl (lv_at hl 2 rfl) ?_
  refine lv_icmp_ne (tgt := 15) hx hb dX1_addDrain_2 (by decide) (fun c_2 => ?_) (fun z => absurd z (h0))
  refine lv_iload_n hx hb dX1_addDrain_15 rfl (lv_at hl 3 rfl) ?_
  refine lv_iconst (v := 1) hx hb dX1_addDrain_16 (by decide) ?_
  refine lv_bipush (v := 9) hx hb dX1_addDrain_17 (by decide) ?_
  refine MC.callS (As := [.int p2, .int 1, .int 9]) (rest := []) (wB := (oC ob h h2) ++ ((mC cI cZ h a σ) ++ (mC cI cZ h2 a2 τ))) (c_X1_requireWithin_ok l D cI cZ cL p2 1 9 (inR_1 hr1).1 (inR_1 hr1).2) ⟨hx, hb, hml, hown, hts⟩ q277 b_X1_requireWithin (n := 3) (by decide +kernel) ⟨Nat.le_of_ble_eq_true rfl, Nat.le_of_ble_eq_true rfl⟩ hK hP hD hS hA (spE _) (spE _) rfl hl.1 rfl (Nat.le_of_ble_eq_true rfl) dX1_addDrain_19 ⟨Nat.le_of_ble_eq_true rfl, Nat.le_of_ble_eq_true rfl⟩ (fun H locs hP hD hS => ?_)
  refine lv_aload_n hx hb dX1_addDrain_22 rfl (lv_at hl 0 rfl) ?_
  refine x_get (C := RX1) (T := TX1) (N := 2) hx hb hts in_wsX10 hown hK hP 0 rfl rfl 0 (by decide) q128 (v := .ref h) rfl dX1_addDrain_23 ?_
  refine lv_iload_n hx hb dX1_addDrain_26 rfl (lv_at hl 1 rfl) ?_
  refine lv_iload_n hx hb dX1_addDrain_27 rfl (lv_at hl 2 rfl) ?_
  refine lv_iload_n hx hb dX1_addDrain_28 rfl (lv_at hl 3 rfl) ?_
  refine lv_iload hx hb dX1_addDrain_29 (lv_at hl 4 rfl) ?_
  refine MC.callV (C := RX0) (T := TX0) (N := 16) (As := [.int p0, .int p1, .int p2, .int y]) (rest := []) (wB := (oC ob h h2) ++ ((mC cI cZ h a (putD k p0 p1 p2 y σ)) ++ (mC cI cZ h2 a2 τ))) (c_X0_putDrain l D cI cZ cL h a σ hst p0 p1 p2 y hy) ⟨hx, hb, hml, hown, hts⟩ q481 b_X0_putDrain (n := 4) (by decide +kernel) ⟨Nat.le_of_ble_eq_true rfl, Nat.le_of_ble_eq_true rfl⟩ hK hP hD hS hA (sp1 _ _ _) (sp1 _ _ _) (ci := 0) rfl (q0 := 1) rfl rfl hl.1 rfl (Nat.le_of_ble_eq_true rfl) dX1_addDrain_31 ⟨Nat.le_of_ble_eq_true rfl, Nat.le_of_ble_eq_true rfl⟩ (fun H locs hP hD hS => ?_)
  refine x_top (if_neg (by omega)) ?_
  refine lv_istore (lv' := [(5, .int (nI k)), (0, .ref ob), (1, .int p0), (2, .int p1), (3, .int p2), (4, .int y)]) hx hb dX1_addDrain_34 hl (by decide) rfl (fun ls hl => ?_)
  refine lv_iload hx hb dX1_addDrain_36 (lv_at hl 0 rfl) ?_
  refine lv_iconst (v := (-1)) hx hb dX1_addDrain_38 (by decide) ?_
  refine lv_icmp_ne (tgt := 52) hx hb dX1_addDrain_39 (by decide) (fun c_39 => ?_) (fun z => absurd z (nI_ne_m1 (by omega)))
  refine lv_iload hx hb dX1_addDrain_52 (lv_at hl 0 rfl) ?_
  subst hQ
  exact xri τ hx hb hr hlocks hK hP hD hS dX1_addDrain_54 (rfl) (rfl)

abbrev rmX1_addDitch_n : Room := { frames := 8, cells := 1, slots := 6, locals := 147 }
theorem b_X1_addDitch : Cond.instanceMethod yX1_addDitch ∈ LW ∧ Cond.selects RX1 yX1_addDitch yX1_addDitch ∈ LW ∧ Cond.initialized RX1 ∈ LW ∧ Cond.code yX1_addDitch cX1_addDitch 4 (some .int) ∈ LW := ⟨q473, q474, q38, q475⟩
set_option maxHeartbeats 4000000 in
set_option maxRecDepth 100000 in
theorem c_X1_addDitch_n (l : Launch) (hl9 : l.stackTraces = false) (D : va_G) (cI cZ cL : ClassId) {n k : Nat} (ob h : Nat) (a : Nat → Nat) (h2 : Nat) (a2 : Nat → Nat) (σ τ : Sg) (hst : Shp n k σ) (p0 p1 p2 : Int32) (hf0 : hasF 0 σ p0 = 0) : MT l yX1_addDitch cX1_addDitch 4 (some .int) rmX1_addDitch_n D (tZ cI cZ cL) [.ref ob, .int p0, .int p1, .int p2] ((oC ob h h2) ++ ((mC cI cZ h a σ) ++ (mC cI cZ h2 a2 τ))) eIOB := by
  refine MT.of (by decide) (Nat.le_of_ble_eq_true rfl) ?_
  intro p e s m args below meth c A ls Q hx hb hml hr hts hown hlocks hA hP hD hK hS hl hQ hE htab
  have hown : s.vm.findClass RX1 = some m.cls := hown
  have hl : lv_has ls 4 [(0, .ref ob), (1, .int p0), (2, .int p1), (3, .int p2)] := hl
  refine lv_aload_n hx hb dX1_addDitch_0 rfl (lv_at hl 0 rfl) ?_
  refine lv_iload_n hx hb dX1_addDitch_1 rfl (lv_at hl 1 rfl) ?_
  refine MT.callV (C := RX1) (T := TX1) (N := 2) (As := [.int p0]) (rest := []) (c_X1_requireField_no l hl9 D cI cZ cL ob h a h2 a2 σ τ p0 hf0) ⟨hx, hb, hml, hown, hts⟩ q363 b_X1_requireField (n := 1) (by decide +kernel) ⟨Nat.le_of_ble_eq_true rfl, Nat.le_of_ble_eq_true rfl⟩ hK hP hD hS hA hE (sp0 _) (ci := 1) rfl (q0 := 0) rfl rfl hl.1 rfl (Nat.le_of_ble_eq_true rfl) dX1_addDitch_2 ⟨Nat.le_of_ble_eq_true rfl, Nat.le_of_ble_eq_true rfl⟩ (fun ce q9 H locs hP hD hS hce hcv hcl => ?_)
  subst hQ
  exact MT.out hlocks htab hK hP hD hS hce hcv hcl (Nat.le_of_ble_eq_true rfl) (Nat.le_of_ble_eq_true rfl)

abbrev rmX1_addDitch_m : Room := { frames := 8, cells := 1, slots := 6, locals := 147 }
set_option maxHeartbeats 4000000 in
set_option maxRecDepth 100000 in
theorem c_X1_addDitch_m (l : Launch) (hl9 : l.stackTraces = false) (D : va_G) (cI cZ cL : ClassId) {n k : Nat} (ob h : Nat) (a : Nat → Nat) (h2 : Nat) (a2 : Nat → Nat) (σ τ : Sg) (hst : Shp n k σ) (p0 p1 p2 : Int32) (hf0 : hasF 0 σ p0 = 1) (hf1 : hasF 0 σ p1 = 0) : MT l yX1_addDitch cX1_addDitch 4 (some .int) rmX1_addDitch_m D (tZ cI cZ cL) [.ref ob, .int p0, .int p1, .int p2] ((oC ob h h2) ++ ((mC cI cZ h a σ) ++ (mC cI cZ h2 a2 τ))) eIOB := by
  refine MT.of (by decide) (Nat.le_of_ble_eq_true rfl) ?_
  intro p e s m args below meth c A ls Q hx hb hml hr hts hown hlocks hA hP hD hK hS hl hQ hE htab
  have hown : s.vm.findClass RX1 = some m.cls := hown
  have hl : lv_has ls 4 [(0, .ref ob), (1, .int p0), (2, .int p1), (3, .int p2)] := hl
  refine lv_aload_n hx hb dX1_addDitch_0 rfl (lv_at hl 0 rfl) ?_
  refine lv_iload_n hx hb dX1_addDitch_1 rfl (lv_at hl 1 rfl) ?_
  refine MC.callV (C := RX1) (T := TX1) (N := 2) (As := [.int p0]) (rest := []) (wB := (oC ob h h2) ++ ((mC cI cZ h a σ) ++ (mC cI cZ h2 a2 τ))) (c_X1_requireField_ok l D cI cZ cL ob h a h2 a2 σ τ p0 (hf0)) ⟨hx, hb, hml, hown, hts⟩ q363 b_X1_requireField (n := 1) (by decide +kernel) ⟨Nat.le_of_ble_eq_true rfl, Nat.le_of_ble_eq_true rfl⟩ hK hP hD hS hA (sp0 _) (sp0 _) (ci := 1) rfl (q0 := 0) rfl rfl hl.1 rfl (Nat.le_of_ble_eq_true rfl) dX1_addDitch_2 ⟨Nat.le_of_ble_eq_true rfl, Nat.le_of_ble_eq_true rfl⟩ (fun H locs hP hD hS => ?_)
  refine lv_aload_n hx hb dX1_addDitch_5 rfl (lv_at hl 0 rfl) ?_
  refine lv_iload_n hx hb dX1_addDitch_6 rfl (lv_at hl 2 rfl) ?_
  refine MT.callV (C := RX1) (T := TX1) (N := 2) (As := [.int p1]) (rest := []) (c_X1_requireField_no l hl9 D cI cZ cL ob h a h2 a2 σ τ p1 hf1) ⟨hx, hb, hml, hown, hts⟩ q363 b_X1_requireField (n := 1) (by decide +kernel) ⟨Nat.le_of_ble_eq_true rfl, Nat.le_of_ble_eq_true rfl⟩ hK hP hD hS hA hE (sp0 _) (ci := 1) rfl (q0 := 0) rfl rfl hl.1 rfl (Nat.le_of_ble_eq_true rfl) dX1_addDitch_7 ⟨Nat.le_of_ble_eq_true rfl, Nat.le_of_ble_eq_true rfl⟩ (fun ce q9 H locs hP hD hS hce hcv hcl => ?_)
  subst hQ
  exact MT.out hlocks htab hK hP hD hS hce hcv hcl (Nat.le_of_ble_eq_true rfl) (Nat.le_of_ble_eq_true rfl)

abbrev rmX1_addPump_n : Room := { frames := 8, cells := 1, slots := 6, locals := 147 }
theorem b_X1_addPump : Cond.instanceMethod yX1_addPump ∈ LW ∧ Cond.selects RX1 yX1_addPump yX1_addPump ∈ LW ∧ Cond.initialized RX1 ∈ LW ∧ Cond.code yX1_addPump cX1_addPump 4 (some .int) ∈ LW := ⟨q490, q491, q38, q492⟩
set_option maxHeartbeats 4000000 in
set_option maxRecDepth 100000 in
theorem c_X1_addPump_n (l : Launch) (hl9 : l.stackTraces = false) (D : va_G) (cI cZ cL : ClassId) {n k : Nat} (ob h : Nat) (a : Nat → Nat) (h2 : Nat) (a2 : Nat → Nat) (σ τ : Sg) (hst : Shp n k σ) (p0 p1 p2 : Int32) (hf0 : hasF 0 σ p0 = 0) : MT l yX1_addPump cX1_addPump 4 (some .int) rmX1_addPump_n D (tZ cI cZ cL) [.ref ob, .int p0, .int p1, .int p2] ((oC ob h h2) ++ ((mC cI cZ h a σ) ++ (mC cI cZ h2 a2 τ))) eIOB := by
  refine MT.of (by decide) (Nat.le_of_ble_eq_true rfl) ?_
  intro p e s m args below meth c A ls Q hx hb hml hr hts hown hlocks hA hP hD hK hS hl hQ hE htab
  have hown : s.vm.findClass RX1 = some m.cls := hown
  have hl : lv_has ls 4 [(0, .ref ob), (1, .int p0), (2, .int p1), (3, .int p2)] := hl
  refine lv_aload_n hx hb dX1_addPump_0 rfl (lv_at hl 0 rfl) ?_
  refine lv_iload_n hx hb dX1_addPump_1 rfl (lv_at hl 1 rfl) ?_
  refine MT.callV (C := RX1) (T := TX1) (N := 2) (As := [.int p0]) (rest := []) (c_X1_requireField_no l hl9 D cI cZ cL ob h a h2 a2 σ τ p0 hf0) ⟨hx, hb, hml, hown, hts⟩ q363 b_X1_requireField (n := 1) (by decide +kernel) ⟨Nat.le_of_ble_eq_true rfl, Nat.le_of_ble_eq_true rfl⟩ hK hP hD hS hA hE (sp0 _) (ci := 1) rfl (q0 := 0) rfl rfl hl.1 rfl (Nat.le_of_ble_eq_true rfl) dX1_addPump_2 ⟨Nat.le_of_ble_eq_true rfl, Nat.le_of_ble_eq_true rfl⟩ (fun ce q9 H locs hP hD hS hce hcv hcl => ?_)
  subst hQ
  exact MT.out hlocks htab hK hP hD hS hce hcv hcl (Nat.le_of_ble_eq_true rfl) (Nat.le_of_ble_eq_true rfl)

abbrev rmX1_addPump_m : Room := { frames := 8, cells := 1, slots := 6, locals := 147 }
set_option maxHeartbeats 4000000 in
set_option maxRecDepth 100000 in
theorem c_X1_addPump_m (l : Launch) (hl9 : l.stackTraces = false) (D : va_G) (cI cZ cL : ClassId) {n k : Nat} (ob h : Nat) (a : Nat → Nat) (h2 : Nat) (a2 : Nat → Nat) (σ τ : Sg) (hst : Shp n k σ) (p0 p1 p2 : Int32) (hf0 : hasF 0 σ p0 = 1) (hm : ¬ p1 = -1) (hf1 : hasF 0 σ p1 = 0) : MT l yX1_addPump cX1_addPump 4 (some .int) rmX1_addPump_m D (tZ cI cZ cL) [.ref ob, .int p0, .int p1, .int p2] ((oC ob h h2) ++ ((mC cI cZ h a σ) ++ (mC cI cZ h2 a2 τ))) eIOB := by
  refine MT.of (by decide) (Nat.le_of_ble_eq_true rfl) ?_
  intro p e s m args below meth c A ls Q hx hb hml hr hts hown hlocks hA hP hD hK hS hl hQ hE htab
  have hown : s.vm.findClass RX1 = some m.cls := hown
  have hl : lv_has ls 4 [(0, .ref ob), (1, .int p0), (2, .int p1), (3, .int p2)] := hl
  refine lv_aload_n hx hb dX1_addPump_0 rfl (lv_at hl 0 rfl) ?_
  refine lv_iload_n hx hb dX1_addPump_1 rfl (lv_at hl 1 rfl) ?_
  refine MC.callV (C := RX1) (T := TX1) (N := 2) (As := [.int p0]) (rest := []) (wB := (oC ob h h2) ++ ((mC cI cZ h a σ) ++ (mC cI cZ h2 a2 τ))) (c_X1_requireField_ok l D cI cZ cL ob h a h2 a2 σ τ p0 (hf0)) ⟨hx, hb, hml, hown, hts⟩ q363 b_X1_requireField (n := 1) (by decide +kernel) ⟨Nat.le_of_ble_eq_true rfl, Nat.le_of_ble_eq_true rfl⟩ hK hP hD hS hA (sp0 _) (sp0 _) (ci := 1) rfl (q0 := 0) rfl rfl hl.1 rfl (Nat.le_of_ble_eq_true rfl) dX1_addPump_2 ⟨Nat.le_of_ble_eq_true rfl, Nat.le_of_ble_eq_true rfl⟩ (fun H locs hP hD hS => ?_)
  refine lv_iload_n hx hb dX1_addPump_5 rfl (lv_at hl 2 rfl) ?_
  refine lv_iconst (v := (-1)) hx hb dX1_addPump_6 (by decide) ?_
  refine lv_icmp_eq (tgt := 15) hx hb dX1_addPump_7 (by decide) (fun z => absurd z (hm)) (fun c_7 => ?_)
  refine lv_aload_n hx hb dX1_addPump_10 rfl (lv_at hl 0 rfl) ?_
  refine lv_iload_n hx hb dX1_addPump_11 rfl (lv_at hl 2 rfl) ?_
  refine MT.callV (C := RX1) (T := TX1) (N := 2) (As := [.int p1]) (rest := []) (c_X1_requireField_no l hl9 D cI cZ cL ob h a h2 a2 σ τ p1 hf1) ⟨hx, hb, hml, hown, hts⟩ q363 b_X1_requireField (n := 1) (by decide +kernel) ⟨Nat.le_of_ble_eq_true rfl, Nat.le_of_ble_eq_true rfl⟩ hK hP hD hS hA hE (sp0 _) (ci := 1) rfl (q0 := 0) rfl rfl hl.1 rfl (Nat.le_of_ble_eq_true rfl) dX1_addPump_12 ⟨Nat.le_of_ble_eq_true rfl, Nat.le_of_ble_eq_true rfl⟩ (fun ce q9 H locs hP hD hS hce hcv hcl => ?_)
  subst hQ
  exact MT.out hlocks htab hK hP hD hS hce hcv hcl (Nat.le_of_ble_eq_true rfl) (Nat.le_of_ble_eq_true rfl)

abbrev rmX1_addDitch_a : Room := { frames := 8, cells := 1, slots := 6, locals := 147 }
set_option maxHeartbeats 4000000 in
set_option maxRecDepth 100000 in
theorem c_X1_addDitch_a (l : Launch) (hl9 : l.stackTraces = false) (D : va_G) (cI cZ cL : ClassId) {n k : Nat} (ob h : Nat) (a : Nat → Nat) (h2 : Nat) (a2 : Nat → Nat) (σ τ : Sg) (hst : Shp n k σ) (p0 p1 p2 : Int32) (hf0 : hasF 0 σ p0 = 1) (hf1 : hasF 0 σ p1 = 1) (h0 : p0 = p1) : MT l yX1_addDitch cX1_addDitch 4 (some .int) rmX1_addDitch_a D (tZ cI cZ cL) [.ref ob, .int p0, .int p1, .int p2] ((oC ob h h2) ++ ((mC cI cZ h a σ) ++ (mC cI cZ h2 a2 τ))) eIAE := by
  refine MT.of (by decide) (Nat.le_of_ble_eq_true rfl) ?_
  intro p e s m args below meth c A ls Q hx hb hml hr hts hown hlocks hA hP hD hK hS hl hQ hE htab
  have hown : s.vm.findClass RX1 = some m.cls := hown
  have hl : lv_has ls 4 [(0, .ref ob), (1, .int p0), (2, .int p1), (3, .int p2)] := hl
  refine lv_aload_n hx hb dX1_addDitch_0 rfl (lv_at hl 0 rfl) ?_
  refine lv_iload_n hx hb dX1_addDitch_1 rfl (lv_at hl 1 rfl) ?_
  refine MC.callV (C := RX1) (T := TX1) (N := 2) (As := [.int p0]) (rest := []) (wB := (oC ob h h2) ++ ((mC cI cZ h a σ) ++ (mC cI cZ h2 a2 τ))) (c_X1_requireField_ok l D cI cZ cL ob h a h2 a2 σ τ p0 (hf0)) ⟨hx, hb, hml, hown, hts⟩ q363 b_X1_requireField (n := 1) (by decide +kernel) ⟨Nat.le_of_ble_eq_true rfl, Nat.le_of_ble_eq_true rfl⟩ hK hP hD hS hA (sp0 _) (sp0 _) (ci := 1) rfl (q0 := 0) rfl rfl hl.1 rfl (Nat.le_of_ble_eq_true rfl) dX1_addDitch_2 ⟨Nat.le_of_ble_eq_true rfl, Nat.le_of_ble_eq_true rfl⟩ (fun H locs hP hD hS => ?_)
  refine lv_aload_n hx hb dX1_addDitch_5 rfl (lv_at hl 0 rfl) ?_
  refine lv_iload_n hx hb dX1_addDitch_6 rfl (lv_at hl 2 rfl) ?_
  refine MC.callV (C := RX1) (T := TX1) (N := 2) (As := [.int p1]) (rest := []) (wB := (oC ob h h2) ++ ((mC cI cZ h a σ) ++ (mC cI cZ h2 a2 τ))) (c_X1_requireField_ok l D cI cZ cL ob h a h2 a2 σ τ p1 (hf1)) ⟨hx, hb, hml, hown, hts⟩ q363 b_X1_requireField (n := 1) (by decide +kernel) ⟨Nat.le_of_ble_eq_true rfl, Nat.le_of_ble_eq_true rfl⟩ hK hP hD hS hA (sp0 _) (sp0 _) (ci := 1) rfl (q0 := 0) rfl rfl hl.1 rfl (Nat.le_of_ble_eq_true rfl) dX1_addDitch_7 ⟨Nat.le_of_ble_eq_true rfl, Nat.le_of_ble_eq_true rfl⟩ (fun H locs hP hD hS => ?_)
  refine lv_aload_n hx hb dX1_addDitch_10 rfl (lv_at hl 0 rfl) ?_
  refine lv_iload_n hx hb dX1_addDitch_11 rfl (lv_at hl 1 rfl) ?_
  refine lv_iload_n hx hb dX1_addDitch_12 rfl (lv_at hl 2 rfl) ?_
  refine lv_iload_n hx hb dX1_addDitch_13 rfl (lv_at hl 3 rfl) ?_
  refine lv_iconst (v := 0) hx hb dX1_addDitch_14 (by decide) ?_
  refine MT.callV (C := RX1) (T := TX1) (N := 2) (As := [.int p0, .int p1, .int p2, .int 0]) (rest := []) (c_X1_addDrain_a l hl9 D cI cZ cL ob h a h2 a2 σ τ hst p0 p1 p2 0 h0) ⟨hx, hb, hml, hown, hts⟩ q476 b_X1_addDrain (n := 4) (by decide +kernel) ⟨Nat.le_of_ble_eq_true rfl, Nat.le_of_ble_eq_true rfl⟩ hK hP hD hS hA hE (sp0 _) (ci := 1) rfl (q0 := 0) rfl rfl hl.1 rfl (Nat.le_of_ble_eq_true rfl) dX1_addDitch_15 ⟨Nat.le_of_ble_eq_true rfl, Nat.le_of_ble_eq_true rfl⟩ (fun ce q9 H locs hP hD hS hce hcv hcl => ?_)
  subst hQ
  exact MT.out hlocks htab hK hP hD hS hce hcv hcl (Nat.le_of_ble_eq_true rfl) (Nat.le_of_ble_eq_true rfl)

abbrev rmX1_addPump_a : Room := { frames := 8, cells := 1, slots := 6, locals := 147 }
set_option maxHeartbeats 4000000 in
set_option maxRecDepth 100000 in
theorem c_X1_addPump_a (l : Launch) (hl9 : l.stackTraces = false) (D : va_G) (cI cZ cL : ClassId) {n k : Nat} (ob h : Nat) (a : Nat → Nat) (h2 : Nat) (a2 : Nat → Nat) (σ τ : Sg) (hst : Shp n k σ) (p0 p1 p2 : Int32) (hf0 : hasF 0 σ p0 = 1) (hm : ¬ p1 = -1) (hf1 : hasF 0 σ p1 = 1) (h0 : p0 = p1) : MT l yX1_addPump cX1_addPump 4 (some .int) rmX1_addPump_a D (tZ cI cZ cL) [.ref ob, .int p0, .int p1, .int p2] ((oC ob h h2) ++ ((mC cI cZ h a σ) ++ (mC cI cZ h2 a2 τ))) eIAE := by
  refine MT.of (by decide) (Nat.le_of_ble_eq_true rfl) ?_
  intro p e s m args below meth c A ls Q hx hb hml hr hts hown hlocks hA hP hD hK hS hl hQ hE htab
  have hown : s.vm.findClass RX1 = some m.cls := hown
  have hl : lv_has ls 4 [(0, .ref ob), (1, .int p0), (2, .int p1), (3, .int p2)] := hl
  refine lv_aload_n hx hb dX1_addPump_0 rfl (lv_at hl 0 rfl) ?_
  refine lv_iload_n hx hb dX1_addPump_1 rfl (lv_at hl 1 rfl) ?_
  refine MC.callV (C := RX1) (T := TX1) (N := 2) (As := [.int p0]) (rest := []) (wB := (oC ob h h2) ++ ((mC cI cZ h a σ) ++ (mC cI cZ h2 a2 τ))) (c_X1_requireField_ok l D cI cZ cL ob h a h2 a2 σ τ p0 (hf0)) ⟨hx, hb, hml, hown, hts⟩ q363 b_X1_requireField (n := 1) (by decide +kernel) ⟨Nat.le_of_ble_eq_true rfl, Nat.le_of_ble_eq_true rfl⟩ hK hP hD hS hA (sp0 _) (sp0 _) (ci := 1) rfl (q0 := 0) rfl rfl hl.1 rfl (Nat.le_of_ble_eq_true rfl) dX1_addPump_2 ⟨Nat.le_of_ble_eq_true rfl, Nat.le_of_ble_eq_true rfl⟩ (fun H locs hP hD hS => ?_)
  refine lv_iload_n hx hb dX1_addPump_5 rfl (lv_at hl 2 rfl) ?_
  refine lv_iconst (v := (-1)) hx hb dX1_addPump_6 (by decide) ?_
  refine lv_icmp_eq (tgt := 15) hx hb dX1_addPump_7 (by decide) (fun z => absurd z (hm)) (fun c_7 => ?_)
  refine lv_aload_n hx hb dX1_addPump_10 rfl (lv_at hl 0 rfl) ?_
  refine lv_iload_n hx hb dX1_addPump_11 rfl (lv_at hl 2 rfl) ?_
  refine MC.callV (C := RX1) (T := TX1) (N := 2) (As := [.int p1]) (rest := []) (wB := (oC ob h h2) ++ ((mC cI cZ h a σ) ++ (mC cI cZ h2 a2 τ))) (c_X1_requireField_ok l D cI cZ cL ob h a h2 a2 σ τ p1 (hf1)) ⟨hx, hb, hml, hown, hts⟩ q363 b_X1_requireField (n := 1) (by decide +kernel) ⟨Nat.le_of_ble_eq_true rfl, Nat.le_of_ble_eq_true rfl⟩ hK hP hD hS hA (sp0 _) (sp0 _) (ci := 1) rfl (q0 := 0) rfl rfl hl.1 rfl (Nat.le_of_ble_eq_true rfl) dX1_addPump_12 ⟨Nat.le_of_ble_eq_true rfl, Nat.le_of_ble_eq_true rfl⟩ (fun H locs hP hD hS => ?_)
  refine lv_aload_n hx hb dX1_addPump_15 rfl (lv_at hl 0 rfl) ?_
  refine lv_iload_n hx hb dX1_addPump_16 rfl (lv_at hl 1 rfl) ?_
  refine lv_iload_n hx hb dX1_addPump_17 rfl (lv_at hl 2 rfl) ?_
  refine lv_iload_n hx hb dX1_addPump_18 rfl (lv_at hl 3 rfl) ?_
  refine lv_iconst (v := 1) hx hb dX1_addPump_19 (by decide) ?_
  refine MT.callV (C := RX1) (T := TX1) (N := 2) (As := [.int p0, .int p1, .int p2, .int 1]) (rest := []) (c_X1_addDrain_a l hl9 D cI cZ cL ob h a h2 a2 σ τ hst p0 p1 p2 1 h0) ⟨hx, hb, hml, hown, hts⟩ q476 b_X1_addDrain (n := 4) (by decide +kernel) ⟨Nat.le_of_ble_eq_true rfl, Nat.le_of_ble_eq_true rfl⟩ hK hP hD hS hA hE (sp0 _) (ci := 1) rfl (q0 := 0) rfl rfl hl.1 rfl (Nat.le_of_ble_eq_true rfl) dX1_addPump_20 ⟨Nat.le_of_ble_eq_true rfl, Nat.le_of_ble_eq_true rfl⟩ (fun ce q9 H locs hP hD hS hce hcv hcl => ?_)
  subst hQ
  exact MT.out hlocks htab hK hP hD hS hce hcv hcl (Nat.le_of_ble_eq_true rfl) (Nat.le_of_ble_eq_true rfl)

abbrev rmX1_addPump_sa : Room := { frames := 8, cells := 1, slots := 6, locals := 147 }
set_option maxHeartbeats 4000000 in
set_option maxRecDepth 100000 in
theorem c_X1_addPump_sa (l : Launch) (hl9 : l.stackTraces = false) (D : va_G) (cI cZ cL : ClassId) {n k : Nat} (ob h : Nat) (a : Nat → Nat) (h2 : Nat) (a2 : Nat → Nat) (σ τ : Sg) (hst : Shp n k σ) (p0 p1 p2 : Int32) (hf0 : hasF 0 σ p0 = 1) (hm : p1 = -1) (h0 : p0 = p1) : MT l yX1_addPump cX1_addPump 4 (some .int) rmX1_addPump_sa D (tZ cI cZ cL) [.ref ob, .int p0, .int p1, .int p2] ((oC ob h h2) ++ ((mC cI cZ h a σ) ++ (mC cI cZ h2 a2 τ))) eIAE := by
  refine MT.of (by decide) (Nat.le_of_ble_eq_true rfl) ?_
  intro p e s m args below meth c A ls Q hx hb hml hr hts hown hlocks hA hP hD hK hS hl hQ hE htab
  have hown : s.vm.findClass RX1 = some m.cls := hown
  have hl : lv_has ls 4 [(0, .ref ob), (1, .int p0), (2, .int p1), (3, .int p2)] := hl
  refine lv_aload_n hx hb dX1_addPump_0 rfl (lv_at hl 0 rfl) ?_
  refine lv_iload_n hx hb dX1_addPump_1 rfl (lv_at hl 1 rfl) ?_
  refine MC.callV (C := RX1) (T := TX1) (N := 2) (As := [.int p0]) (rest := []) (wB := (oC ob h h2) ++ ((mC cI cZ h a σ) ++ (mC cI cZ h2 a2 τ))) (c_X1_requireField_ok l D cI cZ cL ob h a h2 a2 σ τ p0 (hf0)) ⟨hx, hb, hml, hown, hts⟩ q363 b_X1_requireField (n := 1) (by decide +kernel) ⟨Nat.le_of_ble_eq_true rfl, Nat.le_of_ble_eq_true rfl⟩ hK hP hD hS hA (sp0 _) (sp0 _) (ci := 1) rfl (q0 := 0) rfl rfl hl.1 rfl (Nat.le_of_ble_eq_true rfl) dX1_addPump_2 ⟨Nat.le_of_ble_eq_true rfl, Nat.le_of_ble_eq_true rfl⟩ (fun H locs hP hD hS => ?_)
  refine lv_iload_n hx hb dX1_addPump_5 rfl (lv_at hl 2 rfl) ?_
  refine lv_iconst (v := (-1)) hx hb dX1_addPump_6 (by decide) ?_
  refine lv_icmp_eq (tgt := 15) hx hb dX1_addPump_7 (by decide) (fun c_7 => ?_) (fun z => absurd (hm) z)
  refine lv_aload_n hx hb dX1_addPump_15 rfl (lv_at hl 0 rfl) ?_
  refine lv_iload_n hx hb dX1_addPump_16 rfl (lv_at hl 1 rfl) ?_
  refine lv_iload_n hx hb dX1_addPump_17 rfl (lv_at hl 2 rfl) ?_
  refine lv_iload_n hx hb dX1_addPump_18 rfl (lv_at hl 3 rfl) ?_
  refine lv_iconst (v := 1) hx hb dX1_addPump_19 (by decide) ?_
  refine MT.callV (C := RX1) (T := TX1) (N := 2) (As := [.int p0, .int p1, .int p2, .int 1]) (rest := []) (c_X1_addDrain_a l hl9 D cI cZ cL ob h a h2 a2 σ τ hst p0 p1 p2 1 h0) ⟨hx, hb, hml, hown, hts⟩ q476 b_X1_addDrain (n := 4) (by decide +kernel) ⟨Nat.le_of_ble_eq_true rfl, Nat.le_of_ble_eq_true rfl⟩ hK hP hD hS hA hE (sp0 _) (ci := 1) rfl (q0 := 0) rfl rfl hl.1 rfl (Nat.le_of_ble_eq_true rfl) dX1_addPump_20 ⟨Nat.le_of_ble_eq_true rfl, Nat.le_of_ble_eq_true rfl⟩ (fun ce q9 H locs hP hD hS hce hcv hcl => ?_)
  subst hQ
  exact MT.out hlocks htab hK hP hD hS hce hcv hcl (Nat.le_of_ble_eq_true rfl) (Nat.le_of_ble_eq_true rfl)

abbrev rmX1_addDitch_b : Room := { frames := 8, cells := 1, slots := 6, locals := 147 }
set_option maxHeartbeats 4000000 in
set_option maxRecDepth 100000 in
theorem c_X1_addDitch_b (l : Launch) (hl9 : l.stackTraces = false) (D : va_G) (cI cZ cL : ClassId) {n k : Nat} (ob h : Nat) (a : Nat → Nat) (h2 : Nat) (a2 : Nat → Nat) (σ τ : Sg) (hst : Shp n k σ) (p0 p1 p2 : Int32) (hf0 : hasF 0 σ p0 = 1) (hf1 : hasF 0 σ p1 = 1) (h0 : ¬ p0 = p1) (hr1 : inR p2 1 9 = 0) : MT l yX1_addDitch cX1_addDitch 4 (some .int) rmX1_addDitch_b D (tZ cI cZ cL) [.ref ob, .int p0, .int p1, .int p2] ((oC ob h h2) ++ ((mC cI cZ h a σ) ++ (mC cI cZ h2 a2 τ))) eIAE := by
  refine MT.of (by decide) (Nat.le_of_ble_eq_true rfl) ?_
  intro p e s m args below meth c A ls Q hx hb hml hr hts hown hlocks hA hP hD hK hS hl hQ hE htab
  have hown : s.vm.findClass RX1 = some m.cls := hown
  have hl : lv_has ls 4 [(0, .ref ob), (1, .int p0), (2, .int p1), (3, .int p2)] := hl
  refine lv_aload_n hx hb dX1_addDitch_0 rfl (lv_at hl 0 rfl) ?_
  refine lv_iload_n hx hb dX1_addDitch_1 rfl (lv_at hl 1 rfl) ?_
  refine MC.callV (C := RX1) (T := TX1) (N := 2) (As := [.int p0]) (rest := []) (wB := (oC ob h h2) ++ ((mC cI cZ h a σ) ++ (mC cI cZ h2 a2 τ))) (c_X1_requireField_ok l D cI cZ cL ob h a h2 a2 σ τ p0 (hf0)) ⟨hx, hb, hml, hown, hts⟩ q363 b_X1_requireField (n := 1) (by decide +kernel) ⟨Nat.le_of_ble_eq_true rfl, Nat.le_of_ble_eq_true rfl⟩ hK hP hD hS hA (sp0 _) (sp0 _) (ci := 1) rfl (q0 := 0) rfl rfl hl.1 rfl (Nat.le_of_ble_eq_true rfl) dX1_addDitch_2 ⟨Nat.le_of_ble_eq_true rfl, Nat.le_of_ble_eq_true rfl⟩ (fun H locs hP hD hS => ?_)
  refine lv_aload_n hx hb dX1_addDitch_5 rfl (lv_at hl 0 rfl) ?_
  refine lv_iload_n hx hb dX1_addDitch_6 rfl (lv_at hl 2 rfl) ?_
  refine MC.callV (C := RX1) (T := TX1) (N := 2) (As := [.int p1]) (rest := []) (wB := (oC ob h h2) ++ ((mC cI cZ h a σ) ++ (mC cI cZ h2 a2 τ))) (c_X1_requireField_ok l D cI cZ cL ob h a h2 a2 σ τ p1 (hf1)) ⟨hx, hb, hml, hown, hts⟩ q363 b_X1_requireField (n := 1) (by decide +kernel) ⟨Nat.le_of_ble_eq_true rfl, Nat.le_of_ble_eq_true rfl⟩ hK hP hD hS hA (sp0 _) (sp0 _) (ci := 1) rfl (q0 := 0) rfl rfl hl.1 rfl (Nat.le_of_ble_eq_true rfl) dX1_addDitch_7 ⟨Nat.le_of_ble_eq_true rfl, Nat.le_of_ble_eq_true rfl⟩ (fun H locs hP hD hS => ?_)
  refine lv_aload_n hx hb dX1_addDitch_10 rfl (lv_at hl 0 rfl) ?_
  refine lv_iload_n hx hb dX1_addDitch_11 rfl (lv_at hl 1 rfl) ?_
  refine lv_iload_n hx hb dX1_addDitch_12 rfl (lv_at hl 2 rfl) ?_
  refine lv_iload_n hx hb dX1_addDitch_13 rfl (lv_at hl 3 rfl) ?_
  refine lv_iconst (v := 0) hx hb dX1_addDitch_14 (by decide) ?_
  refine MT.callV (C := RX1) (T := TX1) (N := 2) (As := [.int p0, .int p1, .int p2, .int 0]) (rest := []) (c_X1_addDrain_b l hl9 D cI cZ cL ob h a h2 a2 σ τ hst p0 p1 p2 0 h0 hr1) ⟨hx, hb, hml, hown, hts⟩ q476 b_X1_addDrain (n := 4) (by decide +kernel) ⟨Nat.le_of_ble_eq_true rfl, Nat.le_of_ble_eq_true rfl⟩ hK hP hD hS hA hE (sp0 _) (ci := 1) rfl (q0 := 0) rfl rfl hl.1 rfl (Nat.le_of_ble_eq_true rfl) dX1_addDitch_15 ⟨Nat.le_of_ble_eq_true rfl, Nat.le_of_ble_eq_true rfl⟩ (fun ce q9 H locs hP hD hS hce hcv hcl => ?_)
  subst hQ
  exact MT.out hlocks htab hK hP hD hS hce hcv hcl (Nat.le_of_ble_eq_true rfl) (Nat.le_of_ble_eq_true rfl)

abbrev rmX1_addPump_b : Room := { frames := 8, cells := 1, slots := 6, locals := 147 }
set_option maxHeartbeats 4000000 in
set_option maxRecDepth 100000 in
theorem c_X1_addPump_b (l : Launch) (hl9 : l.stackTraces = false) (D : va_G) (cI cZ cL : ClassId) {n k : Nat} (ob h : Nat) (a : Nat → Nat) (h2 : Nat) (a2 : Nat → Nat) (σ τ : Sg) (hst : Shp n k σ) (p0 p1 p2 : Int32) (hf0 : hasF 0 σ p0 = 1) (hm : ¬ p1 = -1) (hf1 : hasF 0 σ p1 = 1) (h0 : ¬ p0 = p1) (hr1 : inR p2 1 9 = 0) : MT l yX1_addPump cX1_addPump 4 (some .int) rmX1_addPump_b D (tZ cI cZ cL) [.ref ob, .int p0, .int p1, .int p2] ((oC ob h h2) ++ ((mC cI cZ h a σ) ++ (mC cI cZ h2 a2 τ))) eIAE := by
  refine MT.of (by decide) (Nat.le_of_ble_eq_true rfl) ?_
  intro p e s m args below meth c A ls Q hx hb hml hr hts hown hlocks hA hP hD hK hS hl hQ hE htab
  have hown : s.vm.findClass RX1 = some m.cls := hown
  have hl : lv_has ls 4 [(0, .ref ob), (1, .int p0), (2, .int p1), (3, .int p2)] := hl
  refine lv_aload_n hx hb dX1_addPump_0 rfl (lv_at hl 0 rfl) ?_
  refine lv_iload_n hx hb dX1_addPump_1 rfl (lv_at hl 1 rfl) ?_
  refine MC.callV (C := RX1) (T := TX1) (N := 2) (As := [.int p0]) (rest := []) (wB := (oC ob h h2) ++ ((mC cI cZ h a σ) ++ (mC cI cZ h2 a2 τ))) (c_X1_requireField_ok l D cI cZ cL ob h a h2 a2 σ τ p0 (hf0)) ⟨hx, hb, hml, hown, hts⟩ q363 b_X1_requireField (n := 1) (by decide +kernel) ⟨Nat.le_of_ble_eq_true rfl, Nat.le_of_ble_eq_true rfl⟩ hK hP hD hS hA (sp0 _) (sp0 _) (ci := 1) rfl (q0 := 0) rfl rfl hl.1 rfl (Nat.le_of_ble_eq_true rfl) dX1_addPump_2 ⟨Nat.le_of_ble_eq_true rfl, Nat.le_of_ble_eq_true rfl⟩ (fun H locs hP hD hS => ?_)
  refine lv_iload_n hx hb dX1_addPump_5 rfl (lv_at hl 2 rfl) ?_
  refine lv_iconst (v := (-1)) hx hb dX1_addPump_6 (by decide) ?_
  refine lv_icmp_eq (tgt := 15) hx hb dX1_addPump_7 (by decide) (fun z => absurd z (hm)) (fun c_7 => ?_)
  refine lv_aload_n hx hb dX1_addPump_10 rfl (lv_at hl 0 rfl) ?_
  refine lv_iload_n hx hb dX1_addPump_11 rfl (lv_at hl 2 rfl) ?_
  refine MC.callV (C := RX1) (T := TX1) (N := 2) (As := [.int p1]) (rest := []) (wB := (oC ob h h2) ++ ((mC cI cZ h a σ) ++ (mC cI cZ h2 a2 τ))) (c_X1_requireField_ok l D cI cZ cL ob h a h2 a2 σ τ p1 (hf1)) ⟨hx, hb, hml, hown, hts⟩ q363 b_X1_requireField (n := 1) (by decide +kernel) ⟨Nat.le_of_ble_eq_true rfl, Nat.le_of_ble_eq_true rfl⟩ hK hP hD hS hA (sp0 _) (sp0 _) (ci := 1) rfl (q0 := 0) rfl rfl hl.1 rfl (Nat.le_of_ble_eq_true rfl) dX1_addPump_12 ⟨Nat.le_of_ble_eq_true rfl, Nat.le_of_ble_eq_true rfl⟩ (fun H locs hP hD hS => ?_)
  refine lv_aload_n hx hb dX1_addPump_15 rfl (lv_at hl 0 rfl) ?_
  refine lv_iload_n hx hb dX1_addPump_16 rfl (lv_at hl 1 rfl) ?_
  refine lv_iload_n hx hb dX1_addPump_17 rfl (lv_at hl 2 rfl) ?_
  refine lv_iload_n hx hb dX1_addPump_18 rfl (lv_at hl 3 rfl) ?_
  refine lv_iconst (v := 1) hx hb dX1_addPump_19 (by decide) ?_
  refine MT.callV (C := RX1) (T := TX1) (N := 2) (As := [.int p0, .int p1, .int p2, .int 1]) (rest := []) (c_X1_addDrain_b l hl9 D cI cZ cL ob h a h2 a2 σ τ hst p0 p1 p2 1 h0 hr1) ⟨hx, hb, hml, hown, hts⟩ q476 b_X1_addDrain (n := 4) (by decide +kernel) ⟨Nat.le_of_ble_eq_true rfl, Nat.le_of_ble_eq_true rfl⟩ hK hP hD hS hA hE (sp0 _) (ci := 1) rfl (q0 := 0) rfl rfl hl.1 rfl (Nat.le_of_ble_eq_true rfl) dX1_addPump_20 ⟨Nat.le_of_ble_eq_true rfl, Nat.le_of_ble_eq_true rfl⟩ (fun ce q9 H locs hP hD hS hce hcv hcl => ?_)
  subst hQ
  exact MT.out hlocks htab hK hP hD hS hce hcv hcl (Nat.le_of_ble_eq_true rfl) (Nat.le_of_ble_eq_true rfl)

abbrev rmX1_addPump_sb : Room := { frames := 8, cells := 1, slots := 6, locals := 147 }
set_option maxHeartbeats 4000000 in
set_option maxRecDepth 100000 in
theorem c_X1_addPump_sb (l : Launch) (hl9 : l.stackTraces = false) (D : va_G) (cI cZ cL : ClassId) {n k : Nat} (ob h : Nat) (a : Nat → Nat) (h2 : Nat) (a2 : Nat → Nat) (σ τ : Sg) (hst : Shp n k σ) (p0 p1 p2 : Int32) (hf0 : hasF 0 σ p0 = 1) (hm : p1 = -1) (h0 : ¬ p0 = p1) (hr1 : inR p2 1 9 = 0) : MT l yX1_addPump cX1_addPump 4 (some .int) rmX1_addPump_sb D (tZ cI cZ cL) [.ref ob, .int p0, .int p1, .int p2] ((oC ob h h2) ++ ((mC cI cZ h a σ) ++ (mC cI cZ h2 a2 τ))) eIAE := by
  refine MT.of (by decide) (Nat.le_of_ble_eq_true rfl) ?_
  intro p e s m args below meth c A ls Q hx hb hml hr hts hown hlocks hA hP hD hK hS hl hQ hE htab
  have hown : s.vm.findClass RX1 = some m.cls := hown
  have hl : lv_has ls 4 [(0, .ref ob), (1, .int p0), (2, .int p1), (3, .int p2)] := hl
  refine lv_aload_n hx hb dX1_addPump_0 rfl (lv_at hl 0 rfl) ?_
  refine lv_iload_n hx hb dX1_addPump_1 rfl (lv_at hl 1 rfl) ?_
  refine MC.callV (C := RX1) (T := TX1) (N := 2) (As := [.int p0]) (rest := []) (wB := (oC ob h h2) ++ ((mC cI cZ h a σ) ++ (mC cI cZ h2 a2 τ))) (c_X1_requireField_ok l D cI cZ cL ob h a h2 a2 σ τ p0 (hf0)) ⟨hx, hb, hml, hown, hts⟩ q363 b_X1_requireField (n := 1) (by decide +kernel) ⟨Nat.le_of_ble_eq_true rfl, Nat.le_of_ble_eq_true rfl⟩ hK hP hD hS hA (sp0 _) (sp0 _) (ci := 1) rfl (q0 := 0) rfl rfl hl.1 rfl (Nat.le_of_ble_eq_true rfl) dX1_addPump_2 ⟨Nat.le_of_ble_eq_true rfl, Nat.le_of_ble_eq_true rfl⟩ (fun H locs hP hD hS => ?_)
  refine lv_iload_n hx hb dX1_addPump_5 rfl (lv_at hl 2 rfl) ?_
  refine lv_iconst (v := (-1)) hx hb dX1_addPump_6 (by decide) ?_
  refine lv_icmp_eq (tgt := 15) hx hb dX1_addPump_7 (by decide) (fun c_7 => ?_) (fun z => absurd (hm) z)
  refine lv_aload_n hx hb dX1_addPump_15 rfl (lv_at hl 0 rfl) ?_
  refine lv_iload_n hx hb dX1_addPump_16 rfl (lv_at hl 1 rfl) ?_
  refine lv_iload_n hx hb dX1_addPump_17 rfl (lv_at hl 2 rfl) ?_
  refine lv_iload_n hx hb dX1_addPump_18 rfl (lv_at hl 3 rfl) ?_
  refine lv_iconst (v := 1) hx hb dX1_addPump_19 (by decide) ?_
  refine MT.callV (C := RX1) (T := TX1) (N := 2) (As := [.int p0, .int p1, .int p2, .int 1]) (rest := []) (c_X1_addDrain_b l hl9 D cI cZ cL ob h a h2 a2 σ τ hst p0 p1 p2 1 h0 hr1) ⟨hx, hb, hml, hown, hts⟩ q476 b_X1_addDrain (n := 4) (by decide +kernel) ⟨Nat.le_of_ble_eq_true rfl, Nat.le_of_ble_eq_true rfl⟩ hK hP hD hS hA hE (sp0 _) (ci := 1) rfl (q0 := 0) rfl rfl hl.1 rfl (Nat.le_of_ble_eq_true rfl) dX1_addPump_20 ⟨Nat.le_of_ble_eq_true rfl, Nat.le_of_ble_eq_true rfl⟩ (fun ce q9 H locs hP hD hS hce hcv hcl => ?_)
  subst hQ
  exact MT.out hlocks htab hK hP hD hS hce hcv hcl (Nat.le_of_ble_eq_true rfl) (Nat.le_of_ble_eq_true rfl)

abbrev rmX1_addDitch_c : Room := { frames := 8, cells := 1, slots := 6, locals := 147 }
set_option maxHeartbeats 4000000 in
set_option maxRecDepth 100000 in
theorem c_X1_addDitch_c (l : Launch) (hl9 : l.stackTraces = false) (D : va_G) (cI cZ cL : ClassId) {n k : Nat} (ob h : Nat) (a : Nat → Nat) (h2 : Nat) (a2 : Nat → Nat) (σ τ : Sg) (hst : Shp n k σ) (p0 p1 p2 : Int32) (hf0 : hasF 0 σ p0 = 1) (hf1 : hasF 0 σ p1 = 1) (h0 : ¬ p0 = p1) (hr1 : ¬ inR p2 1 9 = 0) (hk9 : k = 16) : MT l yX1_addDitch cX1_addDitch 4 (some .int) rmX1_addDitch_c D (tZ cI cZ cL) [.ref ob, .int p0, .int p1, .int p2] ((oC ob h h2) ++ ((mC cI cZ h a σ) ++ (mC cI cZ h2 a2 τ))) eISE := by
  refine MT.of (by decide) (Nat.le_of_ble_eq_true rfl) ?_
  intro p e s m args below meth c A ls Q hx hb hml hr hts hown hlocks hA hP hD hK hS hl hQ hE htab
  have hown : s.vm.findClass RX1 = some m.cls := hown
  have hl : lv_has ls 4 [(0, .ref ob), (1, .int p0), (2, .int p1), (3, .int p2)] := hl
  refine lv_aload_n hx hb dX1_addDitch_0 rfl (lv_at hl 0 rfl) ?_
  refine lv_iload_n hx hb dX1_addDitch_1 rfl (lv_at hl 1 rfl) ?_
  refine MC.callV (C := RX1) (T := TX1) (N := 2) (As := [.int p0]) (rest := []) (wB := (oC ob h h2) ++ ((mC cI cZ h a σ) ++ (mC cI cZ h2 a2 τ))) (c_X1_requireField_ok l D cI cZ cL ob h a h2 a2 σ τ p0 (hf0)) ⟨hx, hb, hml, hown, hts⟩ q363 b_X1_requireField (n := 1) (by decide +kernel) ⟨Nat.le_of_ble_eq_true rfl, Nat.le_of_ble_eq_true rfl⟩ hK hP hD hS hA (sp0 _) (sp0 _) (ci := 1) rfl (q0 := 0) rfl rfl hl.1 rfl (Nat.le_of_ble_eq_true rfl) dX1_addDitch_2 ⟨Nat.le_of_ble_eq_true rfl, Nat.le_of_ble_eq_true rfl⟩ (fun H locs hP hD hS => ?_)
  refine lv_aload_n hx hb dX1_addDitch_5 rfl (lv_at hl 0 rfl) ?_
  refine lv_iload_n hx hb dX1_addDitch_6 rfl (lv_at hl 2 rfl) ?_
  refine MC.callV (C := RX1) (T := TX1) (N := 2) (As := [.int p1]) (rest := []) (wB := (oC ob h h2) ++ ((mC cI cZ h a σ) ++ (mC cI cZ h2 a2 τ))) (c_X1_requireField_ok l D cI cZ cL ob h a h2 a2 σ τ p1 (hf1)) ⟨hx, hb, hml, hown, hts⟩ q363 b_X1_requireField (n := 1) (by decide +kernel) ⟨Nat.le_of_ble_eq_true rfl, Nat.le_of_ble_eq_true rfl⟩ hK hP hD hS hA (sp0 _) (sp0 _) (ci := 1) rfl (q0 := 0) rfl rfl hl.1 rfl (Nat.le_of_ble_eq_true rfl) dX1_addDitch_7 ⟨Nat.le_of_ble_eq_true rfl, Nat.le_of_ble_eq_true rfl⟩ (fun H locs hP hD hS => ?_)
  refine lv_aload_n hx hb dX1_addDitch_10 rfl (lv_at hl 0 rfl) ?_
  refine lv_iload_n hx hb dX1_addDitch_11 rfl (lv_at hl 1 rfl) ?_
  refine lv_iload_n hx hb dX1_addDitch_12 rfl (lv_at hl 2 rfl) ?_
  refine lv_iload_n hx hb dX1_addDitch_13 rfl (lv_at hl 3 rfl) ?_
  refine lv_iconst (v := 0) hx hb dX1_addDitch_14 (by decide) ?_
  refine MT.callV (C := RX1) (T := TX1) (N := 2) (As := [.int p0, .int p1, .int p2, .int 0]) (rest := []) (c_X1_addDrain_c l hl9 D cI cZ cL ob h a h2 a2 σ τ hst p0 p1 p2 0 (Or.inl rfl) h0 hr1 hk9) ⟨hx, hb, hml, hown, hts⟩ q476 b_X1_addDrain (n := 4) (by decide +kernel) ⟨Nat.le_of_ble_eq_true rfl, Nat.le_of_ble_eq_true rfl⟩ hK hP hD hS hA hE (sp0 _) (ci := 1) rfl (q0 := 0) rfl rfl hl.1 rfl (Nat.le_of_ble_eq_true rfl) dX1_addDitch_15 ⟨Nat.le_of_ble_eq_true rfl, Nat.le_of_ble_eq_true rfl⟩ (fun ce q9 H locs hP hD hS hce hcv hcl => ?_)
  subst hQ
  exact MT.out hlocks htab hK hP hD hS hce hcv hcl (Nat.le_of_ble_eq_true rfl) (Nat.le_of_ble_eq_true rfl)

abbrev rmX1_addPump_c : Room := { frames := 8, cells := 1, slots := 6, locals := 147 }
set_option maxHeartbeats 4000000 in
set_option maxRecDepth 100000 in
theorem c_X1_addPump_c (l : Launch) (hl9 : l.stackTraces = false) (D : va_G) (cI cZ cL : ClassId) {n k : Nat} (ob h : Nat) (a : Nat → Nat) (h2 : Nat) (a2 : Nat → Nat) (σ τ : Sg) (hst : Shp n k σ) (p0 p1 p2 : Int32) (hf0 : hasF 0 σ p0 = 1) (hm : ¬ p1 = -1) (hf1 : hasF 0 σ p1 = 1) (h0 : ¬ p0 = p1) (hr1 : ¬ inR p2 1 9 = 0) (hk9 : k = 16) : MT l yX1_addPump cX1_addPump 4 (some .int) rmX1_addPump_c D (tZ cI cZ cL) [.ref ob, .int p0, .int p1, .int p2] ((oC ob h h2) ++ ((mC cI cZ h a σ) ++ (mC cI cZ h2 a2 τ))) eISE := by
  refine MT.of (by decide) (Nat.le_of_ble_eq_true rfl) ?_
  intro p e s m args below meth c A ls Q hx hb hml hr hts hown hlocks hA hP hD hK hS hl hQ hE htab
  have hown : s.vm.findClass RX1 = some m.cls := hown
  have hl : lv_has ls 4 [(0, .ref ob), (1, .int p0), (2, .int p1), (3, .int p2)] := hl
  refine lv_aload_n hx hb dX1_addPump_0 rfl (lv_at hl 0 rfl) ?_
  refine lv_iload_n hx hb dX1_addPump_1 rfl (lv_at hl 1 rfl) ?_
  refine MC.callV (C := RX1) (T := TX1) (N := 2) (As := [.int p0]) (rest := []) (wB := (oC ob h h2) ++ ((mC cI cZ h a σ) ++ (mC cI cZ h2 a2 τ))) (c_X1_requireField_ok l D cI cZ cL ob h a h2 a2 σ τ p0 (hf0)) ⟨hx, hb, hml, hown, hts⟩ q363 b_X1_requireField (n := 1) (by decide +kernel) ⟨Nat.le_of_ble_eq_true rfl, Nat.le_of_ble_eq_true rfl⟩ hK hP hD hS hA (sp0 _) (sp0 _) (ci := 1) rfl (q0 := 0) rfl rfl hl.1 rfl (Nat.le_of_ble_eq_true rfl) dX1_addPump_2 ⟨Nat.le_of_ble_eq_true rfl, Nat.le_of_ble_eq_true rfl⟩ (fun H locs hP hD hS => ?_)
  refine lv_iload_n hx hb dX1_addPump_5 rfl (lv_at hl 2 rfl) ?_
  refine lv_iconst (v := (-1)) hx hb dX1_addPump_6 (by decide) ?_
  refine lv_icmp_eq (tgt := 15) hx hb dX1_addPump_7 (by decide) (fun z => absurd z (hm)) (fun c_7 => ?_)
  refine lv_aload_n hx hb dX1_addPump_10 rfl (lv_at hl 0 rfl) ?_
  refine lv_iload_n hx hb dX1_addPump_11 rfl (lv_at hl 2 rfl) ?_
  refine MC.callV (C := RX1) (T := TX1) (N := 2) (As := [.int p1]) (rest := []) (wB := (oC ob h h2) ++ ((mC cI cZ h a σ) ++ (mC cI cZ h2 a2 τ))) (c_X1_requireField_ok l D cI cZ cL ob h a h2 a2 σ τ p1 (hf1)) ⟨hx, hb, hml, hown, hts⟩ q363 b_X1_requireField (n := 1) (by decide +kernel) ⟨Nat.le_of_ble_eq_true rfl, Nat.le_of_ble_eq_true rfl⟩ hK hP hD hS hA (sp0 _) (sp0 _) (ci := 1) rfl (q0 := 0) rfl rfl hl.1 rfl (Nat.le_of_ble_eq_true rfl) dX1_addPump_12 ⟨Nat.le_of_ble_eq_true rfl, Nat.le_of_ble_eq_true rfl⟩ (fun H locs hP hD hS => ?_)
  refine lv_aload_n hx hb dX1_addPump_15 rfl (lv_at hl 0 rfl) ?_
  refine lv_iload_n hx hb dX1_addPump_16 rfl (lv_at hl 1 rfl) ?_
  refine lv_iload_n hx hb dX1_addPump_17 rfl (lv_at hl 2 rfl) ?_
  refine lv_iload_n hx hb dX1_addPump_18 rfl (lv_at hl 3 rfl) ?_
  refine lv_iconst (v := 1) hx hb dX1_addPump_19 (by decide) ?_
  refine MT.callV (C := RX1) (T := TX1) (N := 2) (As := [.int p0, .int p1, .int p2, .int 1]) (rest := []) (c_X1_addDrain_c l hl9 D cI cZ cL ob h a h2 a2 σ τ hst p0 p1 p2 1 (Or.inr rfl) h0 hr1 hk9) ⟨hx, hb, hml, hown, hts⟩ q476 b_X1_addDrain (n := 4) (by decide +kernel) ⟨Nat.le_of_ble_eq_true rfl, Nat.le_of_ble_eq_true rfl⟩ hK hP hD hS hA hE (sp0 _) (ci := 1) rfl (q0 := 0) rfl rfl hl.1 rfl (Nat.le_of_ble_eq_true rfl) dX1_addPump_20 ⟨Nat.le_of_ble_eq_true rfl, Nat.le_of_ble_eq_true rfl⟩ (fun ce q9 H locs hP hD hS hce hcv hcl => ?_)
  subst hQ
  exact MT.out hlocks htab hK hP hD hS hce hcv hcl (Nat.le_of_ble_eq_true rfl) (Nat.le_of_ble_eq_true rfl)

abbrev rmX1_addPump_sc : Room := { frames := 8, cells := 1, slots := 6, locals := 147 }
set_option maxHeartbeats 4000000 in
set_option maxRecDepth 100000 in
theorem c_X1_addPump_sc (l : Launch) (hl9 : l.stackTraces = false) (D : va_G) (cI cZ cL : ClassId) {n k : Nat} (ob h : Nat) (a : Nat → Nat) (h2 : Nat) (a2 : Nat → Nat) (σ τ : Sg) (hst : Shp n k σ) (p0 p1 p2 : Int32) (hf0 : hasF 0 σ p0 = 1) (hm : p1 = -1) (h0 : ¬ p0 = p1) (hr1 : ¬ inR p2 1 9 = 0) (hk9 : k = 16) : MT l yX1_addPump cX1_addPump 4 (some .int) rmX1_addPump_sc D (tZ cI cZ cL) [.ref ob, .int p0, .int p1, .int p2] ((oC ob h h2) ++ ((mC cI cZ h a σ) ++ (mC cI cZ h2 a2 τ))) eISE := by
  refine MT.of (by decide) (Nat.le_of_ble_eq_true rfl) ?_
  intro p e s m args below meth c A ls Q hx hb hml hr hts hown hlocks hA hP hD hK hS hl hQ hE htab
  have hown : s.vm.findClass RX1 = some m.cls := hown
  have hl : lv_has ls 4 [(0, .ref ob), (1, .int p0), (2, .int p1), (3, .int p2)] := hl
  refine lv_aload_n hx hb dX1_addPump_0 rfl (lv_at hl 0 rfl) ?_
  refine lv_iload_n hx hb dX1_addPump_1 rfl (lv_at hl 1 rfl) ?_
  refine MC.callV (C := RX1) (T := TX1) (N := 2) (As := [.int p0]) (rest := []) (wB := (oC ob h h2) ++ ((mC cI cZ h a σ) ++ (mC cI cZ h2 a2 τ))) (c_X1_requireField_ok l D cI cZ cL ob h a h2 a2 σ τ p0 (hf0)) ⟨hx, hb, hml, hown, hts⟩ q363 b_X1_requireField (n := 1) (by decide +kernel) ⟨Nat.le_of_ble_eq_true rfl, Nat.le_of_ble_eq_true rfl⟩ hK hP hD hS hA (sp0 _) (sp0 _) (ci := 1) rfl (q0 := 0) rfl rfl hl.1 rfl (Nat.le_of_ble_eq_true rfl) dX1_addPump_2 ⟨Nat.le_of_ble_eq_true rfl, Nat.le_of_ble_eq_true rfl⟩ (fun H locs hP hD hS => ?_)
  refine lv_iload_n hx hb dX1_addPump_5 rfl (lv_at hl 2 rfl) ?_
  refine lv_iconst (v := (-1)) hx hb dX1_addPump_6 (by decide) ?_
  refine lv_icmp_eq (tgt := 15) hx hb dX1_addPump_7 (by decide) (fun c_7 => ?_) (fun z => absurd (hm) z)
  refine lv_aload_n hx hb dX1_addPump_15 rfl (lv_at hl 0 rfl) ?_
  refine lv_iload_n hx hb dX1_addPump_16 rfl (lv_at hl 1 rfl) ?_
  refine lv_iload_n hx hb dX1_addPump_17 rfl (lv_at hl 2 rfl) ?_
  refine lv_iload_n hx hb dX1_addPump_18 rfl (lv_at hl 3 rfl) ?_
  refine lv_iconst (v := 1) hx hb dX1_addPump_19 (by decide) ?_
  refine MT.callV (C := RX1) (T := TX1) (N := 2) (As := [.int p0, .int p1, .int p2, .int 1]) (rest := []) (c_X1_addDrain_c l hl9 D cI cZ cL ob h a h2 a2 σ τ hst p0 p1 p2 1 (Or.inr rfl) h0 hr1 hk9) ⟨hx, hb, hml, hown, hts⟩ q476 b_X1_addDrain (n := 4) (by decide +kernel) ⟨Nat.le_of_ble_eq_true rfl, Nat.le_of_ble_eq_true rfl⟩ hK hP hD hS hA hE (sp0 _) (ci := 1) rfl (q0 := 0) rfl rfl hl.1 rfl (Nat.le_of_ble_eq_true rfl) dX1_addPump_20 ⟨Nat.le_of_ble_eq_true rfl, Nat.le_of_ble_eq_true rfl⟩ (fun ce q9 H locs hP hD hS hce hcv hcl => ?_)
  subst hQ
  exact MT.out hlocks htab hK hP hD hS hce hcv hcl (Nat.le_of_ble_eq_true rfl) (Nat.le_of_ble_eq_true rfl)

abbrev rmX1_addDitch_d : Room := { frames := 8, cells := 0, slots := 0, locals := 147 }
set_option maxHeartbeats 4000000 in
set_option maxRecDepth 100000 in
theorem c_X1_addDitch_d (l : Launch) (D : va_G) (cI cZ cL : ClassId) {n k : Nat} (ob h : Nat) (a : Nat → Nat) (h2 : Nat) (a2 : Nat → Nat) (σ τ : Sg) (hst : Shp n k σ) (p0 p1 p2 : Int32) (hf0 : hasF 0 σ p0 = 1) (hf1 : hasF 0 σ p1 = 1) (h0 : ¬ p0 = p1) (hr1 : ¬ inR p2 1 9 = 0) (hk9 : ¬ k = 16) : MX l yX1_addDitch cX1_addDitch 4 (some .int) rmX1_addDitch_d D (tZ cI cZ cL) [.ref ob, .int p0, .int p1, .int p2] ((oC ob h h2) ++ ((mC cI cZ h a σ) ++ (mC cI cZ h2 a2 τ))) (fun ρ => (oC ob h h2) ++ ((mC cI cZ h a (putD k p0 p1 p2 0 σ)) ++ (mC cI cZ h2 a2 ρ))) (some (.int (nI k))) := by
  refine MX.of (by decide) (Nat.le_of_ble_eq_true rfl) ?_
  intro p e s m args below meth c A ls Q hx hb hml hr hts hown hlocks hA hP hD hK hS hl hQ hE
  have hown : s.vm.findClass RX1 = some m.cls := hown
  have hl : lv_has ls 4 [(0, .ref ob), (1, .int p0), (2, .int p1), (3, .int p2)] := hl
  refine lv_aload_n hx hb dX1_addDitch_0 rfl (lv_at hl 0 rfl) ?_
  refine lv_iload_n hx hb dX1_addDitch_1 rfl (lv_at hl 1 rfl) ?_
  refine MC.callV (C := RX1) (T := TX1) (N := 2) (As := [.int p0]) (rest := []) (wB := (oC ob h h2) ++ ((mC cI cZ h a σ) ++ (mC cI cZ h2 a2 τ))) (c_X1_requireField_ok l D cI cZ cL ob h a h2 a2 σ τ p0 (hf0)) ⟨hx, hb, hml, hown, hts⟩ q363 b_X1_requireField (n := 1) (by decide +kernel) ⟨Nat.le_of_ble_eq_true rfl, Nat.le_of_ble_eq_true rfl⟩ hK hP hD hS hA (sp0 _) (sp0 _) (ci := 1) rfl (q0 := 0) rfl rfl hl.1 rfl (Nat.le_of_ble_eq_true rfl) dX1_addDitch_2 ⟨Nat.le_of_ble_eq_true rfl, Nat.le_of_ble_eq_true rfl⟩ (fun H locs hP hD hS => ?_)
  refine lv_aload_n hx hb dX1_addDitch_5 rfl (lv_at hl 0 rfl) ?_
  refine lv_iload_n hx hb dX1_addDitch_6 rfl (lv_at hl 2 rfl) ?_
  refine MC.callV (C := RX1) (T := TX1) (N := 2) (As := [.int p1]) (rest := []) (wB := (oC ob h h2) ++ ((mC cI cZ h a σ) ++ (mC cI cZ h2 a2 τ))) (c_X1_requireField_ok l D cI cZ cL ob h a h2 a2 σ τ p1 (hf1)) ⟨hx, hb, hml, hown, hts⟩ q363 b_X1_requireField (n := 1) (by decide +kernel) ⟨Nat.le_of_ble_eq_true rfl, Nat.le_of_ble_eq_true rfl⟩ hK hP hD hS hA (sp0 _) (sp0 _) (ci := 1) rfl (q0 := 0) rfl rfl hl.1 rfl (Nat.le_of_ble_eq_true rfl) dX1_addDitch_7 ⟨Nat.le_of_ble_eq_true rfl, Nat.le_of_ble_eq_true rfl⟩ (fun H locs hP hD hS => ?_)
  refine lv_aload_n hx hb dX1_addDitch_10 rfl (lv_at hl 0 rfl) ?_
  refine lv_iload_n hx hb dX1_addDitch_11 rfl (lv_at hl 1 rfl) ?_
  refine lv_iload_n hx hb dX1_addDitch_12 rfl (lv_at hl 2 rfl) ?_
  refine lv_iload_n hx hb dX1_addDitch_13 rfl (lv_at hl 3 rfl) ?_
  refine lv_iconst (v := 0) hx hb dX1_addDitch_14 (by decide) ?_
  refine MX.callV (C := RX1) (T := TX1) (N := 2) (As := [.int p0, .int p1, .int p2, .int 0]) (rest := []) (wB := (fun ρ => (oC ob h h2) ++ ((mC cI cZ h a (putD k p0 p1 p2 0 σ)) ++ (mC cI cZ h2 a2 ρ)))) (c_X1_addDrain_d l D cI cZ cL ob h a h2 a2 σ τ hst p0 p1 p2 0 (Or.inl rfl) h0 hr1 hk9) ⟨hx, hb, hml, hown, hts⟩ q476 b_X1_addDrain (n := 4) (by decide +kernel) ⟨Nat.le_of_ble_eq_true rfl, Nat.le_of_ble_eq_true rfl⟩ hK hP hD hS hA hE (sp0 _) (fun _ => sp0 _) (ci := 1) rfl (q0 := 0) rfl rfl hl.1 rfl (Nat.le_of_ble_eq_true rfl) dX1_addDitch_15 ⟨Nat.le_of_ble_eq_true rfl, Nat.le_of_ble_eq_true rfl⟩ (fun ρ_1 H locs hP hD hS => ?_)
  have hP : va_P D vwCl ((oC ob h h2) ++ ((mC cI cZ h a (putD k p0 p1 p2 0 σ)) ++ (mC cI cZ h2 a2 ρ_1))) H := hP
  have hD : va_D A ((oC ob h h2) ++ ((mC cI cZ h a (putD k p0 p1 p2 0 σ)) ++ (mC cI cZ h2 a2 ρ_1))) := hD
  subst hQ
  exact xri ρ_1 hx hb hr hlocks hK hP hD hS dX1_addDitch_18 (rfl) (rfl)

abbrev rmX1_addPump_d : Room := { frames := 8, cells := 0, slots := 0, locals := 147 }
set_option maxHeartbeats 4000000 in
set_option maxRecDepth 100000 in
theorem c_X1_addPump_d (l : Launch) (D : va_G) (cI cZ cL : ClassId) {n k : Nat} (ob h : Nat) (a : Nat → Nat) (h2 : Nat) (a2 : Nat → Nat) (σ τ : Sg) (hst : Shp n k σ) (p0 p1 p2 : Int32) (hf0 : hasF 0 σ p0 = 1) (hm : ¬ p1 = -1) (hf1 : hasF 0 σ p1 = 1) (h0 : ¬ p0 = p1) (hr1 : ¬ inR p2 1 9 = 0) (hk9 : ¬ k = 16) : MX l yX1_addPump cX1_addPump 4 (some .int) rmX1_addPump_d D (tZ cI cZ cL) [.ref ob, .int p0, .int p1, .int p2] ((oC ob h h2) ++ ((mC cI cZ h a σ) ++ (mC cI cZ h2 a2 τ))) (fun ρ => (oC ob h h2) ++ ((mC cI cZ h a (putD k p0 p1 p2 1 σ)) ++ (mC cI cZ h2 a2 ρ))) (some (.int (nI k))) := by
  refine MX.of (by decide) (Nat.le_of_ble_eq_true rfl) ?_
  intro p e s m args below meth c A ls Q hx hb hml hr hts hown hlocks hA hP hD hK hS hl hQ hE
  have hown : s.vm.findClass RX1 = some m.cls := hown
  have hl : lv_has ls 4 [(0, .ref ob), (1, .int p0), (2, .int p1), (3, .int p2)] := hl
  refine lv_aload_n hx hb dX1_addPump_0 rfl (lv_at hl 0 rfl) ?_
  refine lv_iload_n hx hb dX1_addPump_1 rfl (lv_at hl 1 rfl) ?_
  refine MC.callV (C := RX1) (T := TX1) (N := 2) (As := [.int p0]) (rest := []) (wB := (oC ob h h2) ++ ((mC cI cZ h a σ) ++ (mC cI cZ h2 a2 τ))) (c_X1_requireField_ok l D cI cZ cL ob h a h2 a2 σ τ p0 (hf0)) ⟨hx, hb, hml, hown, hts⟩ q363 b_X1_requireField (n := 1) (by decide +kernel) ⟨Nat.le_of_ble_eq_true rfl, Nat.le_of_ble_eq_true rfl⟩ hK hP hD hS hA (sp0 _) (sp0 _) (ci := 1) rfl (q0 := 0) rfl rfl hl.1 rfl (Nat.le_of_ble_eq_true rfl) dX1_addPump_2 ⟨Nat.le_of_ble_eq_true rfl, Nat.le_of_ble_eq_true rfl⟩ (fun H locs hP hD hS => ?_)
  refine lv_iload_n hx hb dX1_addPump_5 rfl (lv_at hl 2 rfl) ?_
  refine lv_iconst (v := (-1)) hx hb dX1_addPump_6 (by decide) ?_
  refine lv_icmp_eq (tgt := 15) hx hb dX1_addPump_7 (by decide) (fun z => absurd z (hm)) (fun c_7 => ?_)
  refine lv_aload_n hx hb dX1_addPump_10 rfl (lv_at hl 0 rfl) ?_
  refine lv_iload_n hx hb dX1_addPump_11 rfl (lv_at hl 2 rfl) ?_
  refine MC.callV (C := RX1) (T := TX1) (N := 2) (As := [.int p1]) (rest := []) (wB := (oC ob h h2) ++ ((mC cI cZ h a σ) ++ (mC cI cZ h2 a2 τ))) (c_X1_requireField_ok l D cI cZ cL ob h a h2 a2 σ τ p1 (hf1)) ⟨hx, hb, hml, hown, hts⟩ q363 b_X1_requireField (n := 1) (by decide +kernel) ⟨Nat.le_of_ble_eq_true rfl, Nat.le_of_ble_eq_true rfl⟩ hK hP hD hS hA (sp0 _) (sp0 _) (ci := 1) rfl (q0 := 0) rfl rfl hl.1 rfl (Nat.le_of_ble_eq_true rfl) dX1_addPump_12 ⟨Nat.le_of_ble_eq_true rfl, Nat.le_of_ble_eq_true rfl⟩ (fun H locs hP hD hS => ?_)
  refine lv_aload_n hx hb dX1_addPump_15 rfl (lv_at hl 0 rfl) ?_
  refine lv_iload_n hx hb dX1_addPump_16 rfl (lv_at hl 1 rfl) ?_
  refine lv_iload_n hx hb dX1_addPump_17 rfl (lv_at hl 2 rfl) ?_
  refine lv_iload_n hx hb dX1_addPump_18 rfl (lv_at hl 3 rfl) ?_
  refine lv_iconst (v := 1) hx hb dX1_addPump_19 (by decide) ?_
  refine MX.callV (C := RX1) (T := TX1) (N := 2) (As := [.int p0, .int p1, .int p2, .int 1]) (rest := []) (wB := (fun ρ => (oC ob h h2) ++ ((mC cI cZ h a (putD k p0 p1 p2 1 σ)) ++ (mC cI cZ h2 a2 ρ)))) (c_X1_addDrain_d l D cI cZ cL ob h a h2 a2 σ τ hst p0 p1 p2 1 (Or.inr rfl) h0 hr1 hk9) ⟨hx, hb, hml, hown, hts⟩ q476 b_X1_addDrain (n := 4) (by decide +kernel) ⟨Nat.le_of_ble_eq_true rfl, Nat.le_of_ble_eq_true rfl⟩ hK hP hD hS hA hE (sp0 _) (fun _ => sp0 _) (ci := 1) rfl (q0 := 0) rfl rfl hl.1 rfl (Nat.le_of_ble_eq_true rfl) dX1_addPump_20 ⟨Nat.le_of_ble_eq_true rfl, Nat.le_of_ble_eq_true rfl⟩ (fun ρ_1 H locs hP hD hS => ?_)
  have hP : va_P D vwCl ((oC ob h h2) ++ ((mC cI cZ h a (putD k p0 p1 p2 1 σ)) ++ (mC cI cZ h2 a2 ρ_1))) H := hP
  have hD : va_D A ((oC ob h h2) ++ ((mC cI cZ h a (putD k p0 p1 p2 1 σ)) ++ (mC cI cZ h2 a2 ρ_1))) := hD
  subst hQ
  exact xri ρ_1 hx hb hr hlocks hK hP hD hS dX1_addPump_23 (rfl) (rfl)

abbrev rmX1_addPump_sd : Room := { frames := 8, cells := 0, slots := 0, locals := 147 }
set_option maxHeartbeats 4000000 in
set_option maxRecDepth 100000 in
theorem c_X1_addPump_sd (l : Launch) (D : va_G) (cI cZ cL : ClassId) {n k : Nat} (ob h : Nat) (a : Nat → Nat) (h2 : Nat) (a2 : Nat → Nat) (σ τ : Sg) (hst : Shp n k σ) (p0 p1 p2 : Int32) (hf0 : hasF 0 σ p0 = 1) (hm : p1 = -1) (h0 : ¬ p0 = p1) (hr1 : ¬ inR p2 1 9 = 0) (hk9 : ¬ k = 16) : MX l yX1_addPump cX1_addPump 4 (some .int) rmX1_addPump_sd D (tZ cI cZ cL) [.ref ob, .int p0, .int p1, .int p2] ((oC ob h h2) ++ ((mC cI cZ h a σ) ++ (mC cI cZ h2 a2 τ))) (fun ρ => (oC ob h h2) ++ ((mC cI cZ h a (putD k p0 p1 p2 1 σ)) ++ (mC cI cZ h2 a2 ρ))) (some (.int (nI k))) := by
  refine MX.of (by decide) (Nat.le_of_ble_eq_true rfl) ?_
  intro p e s m args below meth c A ls Q hx hb hml hr hts hown hlocks hA hP hD hK hS hl hQ hE
  have hown : s.vm.findClass RX1 = some m.cls := hown
  have hl : lv_has ls 4 [(0, .ref ob), (1, .int p0), (2, .int p1), (3, .int p2)] := hl
  refine lv_aload_n hx hb dX1_addPump_0 rfl (lv_at hl 0 rfl) ?_
  refine lv_iload_n hx hb dX1_addPump_1 rfl (lv_at hl 1 rfl) ?_
  refine MC.callV (C := RX1) (T := TX1) (N := 2) (As := [.int p0]) (rest := []) (wB := (oC ob h h2) ++ ((mC cI cZ h a σ) ++ (mC cI cZ h2 a2 τ))) (c_X1_requireField_ok l D cI cZ cL ob h a h2 a2 σ τ p0 (hf0)) ⟨hx, hb, hml, hown, hts⟩ q363 b_X1_requireField (n := 1) (by decide +kernel) ⟨Nat.le_of_ble_eq_true rfl, Nat.le_of_ble_eq_true rfl⟩ hK hP hD hS hA (sp0 _) (sp0 _) (ci := 1) rfl (q0 := 0) rfl rfl hl.1 rfl (Nat.le_of_ble_eq_true rfl) dX1_addPump_2 ⟨Nat.le_of_ble_eq_true rfl, Nat.le_of_ble_eq_true rfl⟩ (fun H locs hP hD hS => ?_)
  refine lv_iload_n hx hb dX1_addPump_5 rfl (lv_at hl 2 rfl) ?_
  refine lv_iconst (v := (-1)) hx hb dX1_addPump_6 (by decide) ?_
  refine lv_icmp_eq (tgt := 15) hx hb dX1_addPump_7 (by decide) (fun c_7 => ?_) (fun z => absurd (hm) z)
  refine lv_aload_n hx hb dX1_addPump_15 rfl (lv_at hl 0 rfl) ?_
  refine lv_iload_n hx hb dX1_addPump_16 rfl (lv_at hl 1 rfl) ?_
  refine lv_iload_n hx hb dX1_addPump_17 rfl (lv_at hl 2 rfl) ?_
  refine lv_iload_n hx hb dX1_addPump_18 rfl (lv_at hl 3 rfl) ?_
  refine lv_iconst (v := 1) hx hb dX1_addPump_19 (by decide) ?_
  refine MX.callV (C := RX1) (T := TX1) (N := 2) (As := [.int p0, .int p1, .int p2, .int 1]) (rest := []) (wB := (fun ρ => (oC ob h h2) ++ ((mC cI cZ h a (putD k p0 p1 p2 1 σ)) ++ (mC cI cZ h2 a2 ρ)))) (c_X1_addDrain_d l D cI cZ cL ob h a h2 a2 σ τ hst p0 p1 p2 1 (Or.inr rfl) h0 hr1 hk9) ⟨hx, hb, hml, hown, hts⟩ q476 b_X1_addDrain (n := 4) (by decide +kernel) ⟨Nat.le_of_ble_eq_true rfl, Nat.le_of_ble_eq_true rfl⟩ hK hP hD hS hA hE (sp0 _) (fun _ => sp0 _) (ci := 1) rfl (q0 := 0) rfl rfl hl.1 rfl (Nat.le_of_ble_eq_true rfl) dX1_addPump_20 ⟨Nat.le_of_ble_eq_true rfl, Nat.le_of_ble_eq_true rfl⟩ (fun ρ_1 H locs hP hD hS => ?_)
  have hP : va_P D vwCl ((oC ob h h2) ++ ((mC cI cZ h a (putD k p0 p1 p2 1 σ)) ++ (mC cI cZ h2 a2 ρ_1))) H := hP
  have hD : va_D A ((oC ob h h2) ++ ((mC cI cZ h a (putD k p0 p1 p2 1 σ)) ++ (mC cI cZ h2 a2 ρ_1))) := hD
  subst hQ
  exact xri ρ_1 hx hb hr hlocks hK hP hD hS dX1_addPump_23 (rfl) (rfl)

abbrev rmX1_turn_n : Room := { frames := 7, cells := 1, slots := 6, locals := 121 }
theorem b_X1_turn : Cond.instanceMethod yX1_turn ∈ LW ∧ Cond.selects RX1 yX1_turn yX1_turn ∈ LW ∧ Cond.initialized RX1 ∈ LW ∧ Cond.code yX1_turn cX1_turn 2 (some .boolean) ∈ LW := ⟨q497, q498, q38, q499⟩
set_option maxHeartbeats 4000000 in
set_option maxRecDepth 100000 in
theorem c_X1_turn_n (l : Launch) (hl9 : l.stackTraces = false) (D : va_G) (cI cZ cL : ClassId) (ob h : Nat) (a : Nat → Nat) (h2 : Nat) (a2 : Nat → Nat) (σ τ : Sg) (x : Int32) (hf : hasF 1 σ x = 0) : MT l yX1_turn cX1_turn 2 (some .boolean) rmX1_turn_n D (tZ cI cZ cL) [.ref ob, .int x] ((oC ob h h2) ++ ((mC cI cZ h a σ) ++ (mC cI cZ h2 a2 τ))) eIOB := by
  refine MT.of (by decide) (Nat.le_of_ble_eq_true rfl) ?_
  intro p e s m args below meth c A ls Q hx hb hml hr hts hown hlocks hA hP hD hK hS hl hQ hE htab
  have hown : s.vm.findClass RX1 = some m.cls := hown
  have hl : lv_has ls 2 [(0, .ref ob), (1, .int x)] := hl
  refine lv_aload_n hx hb dX1_turn_0 rfl (lv_at hl 0 rfl) ?_
  refine lv_iload_n hx hb dX1_turn_1 rfl (lv_at hl 1 rfl) ?_
  refine MT.callV (C := RX1) (T := TX1) (N := 2) (As := [.int x]) (rest := []) (c_X1_requireDrain_no l hl9 D cI cZ cL ob h a h2 a2 σ τ x hf) ⟨hx, hb, hml, hown, hts⟩ q423 b_X1_requireDrain (n := 1) (by decide +kernel) ⟨Nat.le_of_ble_eq_true rfl, Nat.le_of_ble_eq_true rfl⟩ hK hP hD hS hA hE (sp0 _) (ci := 1) rfl (q0 := 0) rfl rfl hl.1 rfl (Nat.le_of_ble_eq_true rfl) dX1_turn_2 ⟨Nat.le_of_ble_eq_true rfl, Nat.le_of_ble_eq_true rfl⟩ (fun ce q9 H locs hP hD hS hce hcv hcl => ?_)
  subst hQ
  exact MT.out hlocks htab hK hP hD hS hce hcv hcl (Nat.le_of_ble_eq_true rfl) (Nat.le_of_ble_eq_true rfl)

abbrev rmX1_flood_n : Room := { frames := 7, cells := 1, slots := 6, locals := 122 }
theorem b_X1_flood : Cond.instanceMethod yX1_flood ∈ LW ∧ Cond.selects RX1 yX1_flood yX1_flood ∈ LW ∧ Cond.initialized RX1 ∈ LW ∧ Cond.code yX1_flood cX1_flood 3 (some .int) ∈ LW := ⟨q511, q512, q38, q513⟩
set_option maxHeartbeats 4000000 in
set_option maxRecDepth 100000 in
theorem c_X1_flood_n (l : Launch) (hl9 : l.stackTraces = false) (D : va_G) (cI cZ cL : ClassId) (ob h : Nat) (a : Nat → Nat) (h2 : Nat) (a2 : Nat → Nat) (σ τ : Sg) (x y : Int32) (hf : hasF 0 σ x = 0) : MT l yX1_flood cX1_flood 3 (some .int) rmX1_flood_n D (tZ cI cZ cL) [.ref ob, .int x, .int y] ((oC ob h h2) ++ ((mC cI cZ h a σ) ++ (mC cI cZ h2 a2 τ))) eIOB := by
  refine MT.of (by decide) (Nat.le_of_ble_eq_true rfl) ?_
  intro p e s m args below meth c A ls Q hx hb hml hr hts hown hlocks hA hP hD hK hS hl hQ hE htab
  have hown : s.vm.findClass RX1 = some m.cls := hown
  have hl : lv_has ls 3 [(0, .ref ob), (1, .int x), (2, .int y)] := hl
  refine lv_aload_n hx hb dX1_flood_0 rfl (lv_at hl 0 rfl) ?_
  refine lv_iload_n hx hb dX1_flood_1 rfl (lv_at hl 1 rfl) ?_
  refine MT.callV (C := RX1) (T := TX1) (N := 2) (As := [.int x]) (rest := []) (c_X1_requireField_no l hl9 D cI cZ cL ob h a h2 a2 σ τ x hf) ⟨hx, hb, hml, hown, hts⟩ q363 b_X1_requireField (n := 1) (by decide +kernel) ⟨Nat.le_of_ble_eq_true rfl, Nat.le_of_ble_eq_true rfl⟩ hK hP hD hS hA hE (sp0 _) (ci := 1) rfl (q0 := 0) rfl rfl hl.1 rfl (Nat.le_of_ble_eq_true rfl) dX1_flood_2 ⟨Nat.le_of_ble_eq_true rfl, Nat.le_of_ble_eq_true rfl⟩ (fun ce q9 H locs hP hD hS hce hcv hcl => ?_)
  subst hQ
  exact MT.out hlocks htab hK hP hD hS hce hcv hcl (Nat.le_of_ble_eq_true rfl) (Nat.le_of_ble_eq_true rfl)

abbrev rmX1_waterOn_n : Room := { frames := 7, cells := 1, slots := 6, locals := 121 }
theorem b_X1_waterOn : Cond.instanceMethod yX1_waterOn ∈ LW ∧ Cond.selects RX1 yX1_waterOn yX1_waterOn ∈ LW ∧ Cond.initialized RX1 ∈ LW ∧ Cond.code yX1_waterOn cX1_waterOn 2 (some .int) ∈ LW := ⟨q360, q361, q38, q362⟩
set_option maxHeartbeats 4000000 in
set_option maxRecDepth 100000 in
theorem c_X1_waterOn_n (l : Launch) (hl9 : l.stackTraces = false) (D : va_G) (cI cZ cL : ClassId) (ob h : Nat) (a : Nat → Nat) (h2 : Nat) (a2 : Nat → Nat) (σ τ : Sg) (x : Int32) (hf : hasF 0 σ x = 0) : MT l yX1_waterOn cX1_waterOn 2 (some .int) rmX1_waterOn_n D (tZ cI cZ cL) [.ref ob, .int x] ((oC ob h h2) ++ ((mC cI cZ h a σ) ++ (mC cI cZ h2 a2 τ))) eIOB := by
  refine MT.of (by decide) (Nat.le_of_ble_eq_true rfl) ?_
  intro p e s m args below meth c A ls Q hx hb hml hr hts hown hlocks hA hP hD hK hS hl hQ hE htab
  have hown : s.vm.findClass RX1 = some m.cls := hown
  have hl : lv_has ls 2 [(0, .ref ob), (1, .int x)] := hl
  refine lv_aload_n hx hb dX1_waterOn_0 rfl (lv_at hl 0 rfl) ?_
  refine lv_iload_n hx hb dX1_waterOn_1 rfl (lv_at hl 1 rfl) ?_
  refine MT.callV (C := RX1) (T := TX1) (N := 2) (As := [.int x]) (rest := []) (c_X1_requireField_no l hl9 D cI cZ cL ob h a h2 a2 σ τ x hf) ⟨hx, hb, hml, hown, hts⟩ q363 b_X1_requireField (n := 1) (by decide +kernel) ⟨Nat.le_of_ble_eq_true rfl, Nat.le_of_ble_eq_true rfl⟩ hK hP hD hS hA hE (sp0 _) (ci := 1) rfl (q0 := 0) rfl rfl hl.1 rfl (Nat.le_of_ble_eq_true rfl) dX1_waterOn_2 ⟨Nat.le_of_ble_eq_true rfl, Nat.le_of_ble_eq_true rfl⟩ (fun ce q9 H locs hP hD hS hce hcv hcl => ?_)
  subst hQ
  exact MT.out hlocks htab hK hP hD hS hce hcv hcl (Nat.le_of_ble_eq_true rfl) (Nat.le_of_ble_eq_true rfl)

abbrev rmX1_levelOf_n : Room := { frames := 7, cells := 1, slots := 6, locals := 121 }
theorem b_X1_levelOf : Cond.instanceMethod yX1_levelOf ∈ LW ∧ Cond.selects RX1 yX1_levelOf yX1_levelOf ∈ LW ∧ Cond.initialized RX1 ∈ LW ∧ Cond.code yX1_levelOf cX1_levelOf 2 (some .int) ∈ LW := ⟨q529, q530, q38, q531⟩
set_option maxHeartbeats 4000000 in
set_option maxRecDepth 100000 in
theorem c_X1_levelOf_n (l : Launch) (hl9 : l.stackTraces = false) (D : va_G) (cI cZ cL : ClassId) (ob h : Nat) (a : Nat → Nat) (h2 : Nat) (a2 : Nat → Nat) (σ τ : Sg) (x : Int32) (hf : hasF 0 σ x = 0) : MT l yX1_levelOf cX1_levelOf 2 (some .int) rmX1_levelOf_n D (tZ cI cZ cL) [.ref ob, .int x] ((oC ob h h2) ++ ((mC cI cZ h a σ) ++ (mC cI cZ h2 a2 τ))) eIOB := by
  refine MT.of (by decide) (Nat.le_of_ble_eq_true rfl) ?_
  intro p e s m args below meth c A ls Q hx hb hml hr hts hown hlocks hA hP hD hK hS hl hQ hE htab
  have hown : s.vm.findClass RX1 = some m.cls := hown
  have hl : lv_has ls 2 [(0, .ref ob), (1, .int x)] := hl
  refine lv_aload_n hx hb dX1_levelOf_0 rfl (lv_at hl 0 rfl) ?_
  refine lv_iload_n hx hb dX1_levelOf_1 rfl (lv_at hl 1 rfl) ?_
  refine MT.callV (C := RX1) (T := TX1) (N := 2) (As := [.int x]) (rest := []) (c_X1_requireField_no l hl9 D cI cZ cL ob h a h2 a2 σ τ x hf) ⟨hx, hb, hml, hown, hts⟩ q363 b_X1_requireField (n := 1) (by decide +kernel) ⟨Nat.le_of_ble_eq_true rfl, Nat.le_of_ble_eq_true rfl⟩ hK hP hD hS hA hE (sp0 _) (ci := 1) rfl (q0 := 0) rfl rfl hl.1 rfl (Nat.le_of_ble_eq_true rfl) dX1_levelOf_2 ⟨Nat.le_of_ble_eq_true rfl, Nat.le_of_ble_eq_true rfl⟩ (fun ce q9 H locs hP hD hS hce hcv hcl => ?_)
  subst hQ
  exact MT.out hlocks htab hK hP hD hS hce hcv hcl (Nat.le_of_ble_eq_true rfl) (Nat.le_of_ble_eq_true rfl)

abbrev rmX1_wetFor_n : Room := { frames := 7, cells := 1, slots := 6, locals := 121 }
theorem b_X1_wetFor : Cond.instanceMethod yX1_wetFor ∈ LW ∧ Cond.selects RX1 yX1_wetFor yX1_wetFor ∈ LW ∧ Cond.initialized RX1 ∈ LW ∧ Cond.code yX1_wetFor cX1_wetFor 2 (some .int) ∈ LW := ⟨q385, q386, q38, q387⟩
set_option maxHeartbeats 4000000 in
set_option maxRecDepth 100000 in
theorem c_X1_wetFor_n (l : Launch) (hl9 : l.stackTraces = false) (D : va_G) (cI cZ cL : ClassId) (ob h : Nat) (a : Nat → Nat) (h2 : Nat) (a2 : Nat → Nat) (σ τ : Sg) (x : Int32) (hf : hasF 0 σ x = 0) : MT l yX1_wetFor cX1_wetFor 2 (some .int) rmX1_wetFor_n D (tZ cI cZ cL) [.ref ob, .int x] ((oC ob h h2) ++ ((mC cI cZ h a σ) ++ (mC cI cZ h2 a2 τ))) eIOB := by
  refine MT.of (by decide) (Nat.le_of_ble_eq_true rfl) ?_
  intro p e s m args below meth c A ls Q hx hb hml hr hts hown hlocks hA hP hD hK hS hl hQ hE htab
  have hown : s.vm.findClass RX1 = some m.cls := hown
  have hl : lv_has ls 2 [(0, .ref ob), (1, .int x)] := hl
  refine lv_aload_n hx hb dX1_wetFor_0 rfl (lv_at hl 0 rfl) ?_
  refine lv_iload_n hx hb dX1_wetFor_1 rfl (lv_at hl 1 rfl) ?_
  refine MT.callV (C := RX1) (T := TX1) (N := 2) (As := [.int x]) (rest := []) (c_X1_requireField_no l hl9 D cI cZ cL ob h a h2 a2 σ τ x hf) ⟨hx, hb, hml, hown, hts⟩ q363 b_X1_requireField (n := 1) (by decide +kernel) ⟨Nat.le_of_ble_eq_true rfl, Nat.le_of_ble_eq_true rfl⟩ hK hP hD hS hA hE (sp0 _) (ci := 1) rfl (q0 := 0) rfl rfl hl.1 rfl (Nat.le_of_ble_eq_true rfl) dX1_wetFor_2 ⟨Nat.le_of_ble_eq_true rfl, Nat.le_of_ble_eq_true rfl⟩ (fun ce q9 H locs hP hD hS hce hcv hcl => ?_)
  subst hQ
  exact MT.out hlocks htab hK hP hD hS hce hcv hcl (Nat.le_of_ble_eq_true rfl) (Nat.le_of_ble_eq_true rfl)

abbrev rmX1_isRuined_n : Room := { frames := 7, cells := 1, slots := 6, locals := 121 }
theorem b_X1_isRuined : Cond.instanceMethod yX1_isRuined ∈ LW ∧ Cond.selects RX1 yX1_isRuined yX1_isRuined ∈ LW ∧ Cond.initialized RX1 ∈ LW ∧ Cond.code yX1_isRuined cX1_isRuined 2 (some .boolean) ∈ LW := ⟨q389, q390, q38, q391⟩
set_option maxHeartbeats 4000000 in
set_option maxRecDepth 100000 in
theorem c_X1_isRuined_n (l : Launch) (hl9 : l.stackTraces = false) (D : va_G) (cI cZ cL : ClassId) (ob h : Nat) (a : Nat → Nat) (h2 : Nat) (a2 : Nat → Nat) (σ τ : Sg) (x : Int32) (hf : hasF 0 σ x = 0) : MT l yX1_isRuined cX1_isRuined 2 (some .boolean) rmX1_isRuined_n D (tZ cI cZ cL) [.ref ob, .int x] ((oC ob h h2) ++ ((mC cI cZ h a σ) ++ (mC cI cZ h2 a2 τ))) eIOB := by
  refine MT.of (by decide) (Nat.le_of_ble_eq_true rfl) ?_
  intro p e s m args below meth c A ls Q hx hb hml hr hts hown hlocks hA hP hD hK hS hl hQ hE htab
  have hown : s.vm.findClass RX1 = some m.cls := hown
  have hl : lv_has ls 2 [(0, .ref ob), (1, .int x)] := hl
  refine lv_aload_n hx hb dX1_isRuined_0 rfl (lv_at hl 0 rfl) ?_
  refine lv_iload_n hx hb dX1_isRuined_1 rfl (lv_at hl 1 rfl) ?_
  refine MT.callV (C := RX1) (T := TX1) (N := 2) (As := [.int x]) (rest := []) (c_X1_requireField_no l hl9 D cI cZ cL ob h a h2 a2 σ τ x hf) ⟨hx, hb, hml, hown, hts⟩ q363 b_X1_requireField (n := 1) (by decide +kernel) ⟨Nat.le_of_ble_eq_true rfl, Nat.le_of_ble_eq_true rfl⟩ hK hP hD hS hA hE (sp0 _) (ci := 1) rfl (q0 := 0) rfl rfl hl.1 rfl (Nat.le_of_ble_eq_true rfl) dX1_isRuined_2 ⟨Nat.le_of_ble_eq_true rfl, Nat.le_of_ble_eq_true rfl⟩ (fun ce q9 H locs hP hD hS hce hcv hcl => ?_)
  subst hQ
  exact MT.out hlocks htab hK hP hD hS hce hcv hcl (Nat.le_of_ble_eq_true rfl) (Nat.le_of_ble_eq_true rfl)

abbrev rmX1_drainsAt_n : Room := { frames := 7, cells := 1, slots := 6, locals := 121 }
theorem b_X1_drainsAt : Cond.instanceMethod yX1_drainsAt ∈ LW ∧ Cond.selects RX1 yX1_drainsAt yX1_drainsAt ∈ LW ∧ Cond.initialized RX1 ∈ LW ∧ Cond.code yX1_drainsAt cX1_drainsAt 4 (some .int) ∈ LW := ⟨q393, q394, q38, q395⟩
set_option maxHeartbeats 4000000 in
set_option maxRecDepth 100000 in
theorem c_X1_drainsAt_n (l : Launch) (hl9 : l.stackTraces = false) (D : va_G) (cI cZ cL : ClassId) (ob h : Nat) (a : Nat → Nat) (h2 : Nat) (a2 : Nat → Nat) (σ τ : Sg) (x : Int32) (hf : hasF 0 σ x = 0) : MT l yX1_drainsAt cX1_drainsAt 4 (some .int) rmX1_drainsAt_n D (tZ cI cZ cL) [.ref ob, .int x] ((oC ob h h2) ++ ((mC cI cZ h a σ) ++ (mC cI cZ h2 a2 τ))) eIOB := by
  refine MT.of (by decide) (Nat.le_of_ble_eq_true rfl) ?_
  intro p e s m args below meth c A ls Q hx hb hml hr hts hown hlocks hA hP hD hK hS hl hQ hE htab
  have hown : s.vm.findClass RX1 = some m.cls := hown
  have hl : lv_has ls 4 [(0, .ref ob), (1, .int x)] := hl
  refine lv_aload_n hx hb dX1_drainsAt_0 rfl (lv_at hl 0 rfl) ?_
  refine lv_iload_n hx hb dX1_drainsAt_1 rfl (lv_at hl 1 rfl) ?_
  refine MT.callV (C := RX1) (T := TX1) (N := 2) (As := [.int x]) (rest := []) (c_X1_requireField_no l hl9 D cI cZ cL ob h a h2 a2 σ τ x hf) ⟨hx, hb, hml, hown, hts⟩ q363 b_X1_requireField (n := 1) (by decide +kernel) ⟨Nat.le_of_ble_eq_true rfl, Nat.le_of_ble_eq_true rfl⟩ hK hP hD hS hA hE (sp0 _) (ci := 1) rfl (q0 := 0) rfl rfl hl.1 rfl (Nat.le_of_ble_eq_true rfl) dX1_drainsAt_2 ⟨Nat.le_of_ble_eq_true rfl, Nat.le_of_ble_eq_true rfl⟩ (fun ce q9 H locs hP hD hS hce hcv hcl => ?_)
  subst hQ
  exact MT.out hlocks htab hK hP hD hS hce hcv hcl (Nat.le_of_ble_eq_true rfl) (Nat.le_of_ble_eq_true rfl)

abbrev rmX1_reaches_n : Room := { frames := 7, cells := 1, slots := 6, locals := 121 }
theorem b_X1_reaches : Cond.instanceMethod yX1_reaches ∈ LW ∧ Cond.selects RX1 yX1_reaches yX1_reaches ∈ LW ∧ Cond.initialized RX1 ∈ LW ∧ Cond.code yX1_reaches cX1_reaches 4 (some .int) ∈ LW := ⟨q397, q398, q38, q399⟩
set_option maxHeartbeats 4000000 in
set_option maxRecDepth 100000 in
theorem c_X1_reaches_n (l : Launch) (hl9 : l.stackTraces = false) (D : va_G) (cI cZ cL : ClassId) (ob h : Nat) (a : Nat → Nat) (h2 : Nat) (a2 : Nat → Nat) (σ τ : Sg) (x : Int32) (hf : hasF 0 σ x = 0) : MT l yX1_reaches cX1_reaches 4 (some .int) rmX1_reaches_n D (tZ cI cZ cL) [.ref ob, .int x] ((oC ob h h2) ++ ((mC cI cZ h a σ) ++ (mC cI cZ h2 a2 τ))) eIOB := by
  refine MT.of (by decide) (Nat.le_of_ble_eq_true rfl) ?_
  intro p e s m args below meth c A ls Q hx hb hml hr hts hown hlocks hA hP hD hK hS hl hQ hE htab
  have hown : s.vm.findClass RX1 = some m.cls := hown
  have hl : lv_has ls 4 [(0, .ref ob), (1, .int x)] := hl
  refine lv_aload_n hx hb dX1_reaches_0 rfl (lv_at hl 0 rfl) ?_
  refine lv_iload_n hx hb dX1_reaches_1 rfl (lv_at hl 1 rfl) ?_
  refine MT.callV (C := RX1) (T := TX1) (N := 2) (As := [.int x]) (rest := []) (c_X1_requireField_no l hl9 D cI cZ cL ob h a h2 a2 σ τ x hf) ⟨hx, hb, hml, hown, hts⟩ q363 b_X1_requireField (n := 1) (by decide +kernel) ⟨Nat.le_of_ble_eq_true rfl, Nat.le_of_ble_eq_true rfl⟩ hK hP hD hS hA hE (sp0 _) (ci := 1) rfl (q0 := 0) rfl rfl hl.1 rfl (Nat.le_of_ble_eq_true rfl) dX1_reaches_2 ⟨Nat.le_of_ble_eq_true rfl, Nat.le_of_ble_eq_true rfl⟩ (fun ce q9 H locs hP hD hS hce hcv hcl => ?_)
  subst hQ
  exact MT.out hlocks htab hK hP hD hS hce hcv hcl (Nat.le_of_ble_eq_true rfl) (Nat.le_of_ble_eq_true rfl)

abbrev rmX1_isPump_n : Room := { frames := 7, cells := 1, slots := 6, locals := 121 }
theorem b_X1_isPump : Cond.instanceMethod yX1_isPump ∈ LW ∧ Cond.selects RX1 yX1_isPump yX1_isPump ∈ LW ∧ Cond.initialized RX1 ∈ LW ∧ Cond.code yX1_isPump cX1_isPump 2 (some .boolean) ∈ LW := ⟨q552, q553, q38, q554⟩
set_option maxHeartbeats 4000000 in
set_option maxRecDepth 100000 in
theorem c_X1_isPump_n (l : Launch) (hl9 : l.stackTraces = false) (D : va_G) (cI cZ cL : ClassId) (ob h : Nat) (a : Nat → Nat) (h2 : Nat) (a2 : Nat → Nat) (σ τ : Sg) (x : Int32) (hf : hasF 1 σ x = 0) : MT l yX1_isPump cX1_isPump 2 (some .boolean) rmX1_isPump_n D (tZ cI cZ cL) [.ref ob, .int x] ((oC ob h h2) ++ ((mC cI cZ h a σ) ++ (mC cI cZ h2 a2 τ))) eIOB := by
  refine MT.of (by decide) (Nat.le_of_ble_eq_true rfl) ?_
  intro p e s m args below meth c A ls Q hx hb hml hr hts hown hlocks hA hP hD hK hS hl hQ hE htab
  have hown : s.vm.findClass RX1 = some m.cls := hown
  have hl : lv_has ls 2 [(0, .ref ob), (1, .int x)] := hl
  refine lv_aload_n hx hb dX1_isPump_0 rfl (lv_at hl 0 rfl) ?_
  refine lv_iload_n hx hb dX1_isPump_1 rfl (lv_at hl 1 rfl) ?_
  refine MT.callV (C := RX1) (T := TX1) (N := 2) (As := [.int x]) (rest := []) (c_X1_requireDrain_no l hl9 D cI cZ cL ob h a h2 a2 σ τ x hf) ⟨hx, hb, hml, hown, hts⟩ q423 b_X1_requireDrain (n := 1) (by decide +kernel) ⟨Nat.le_of_ble_eq_true rfl, Nat.le_of_ble_eq_true rfl⟩ hK hP hD hS hA hE (sp0 _) (ci := 1) rfl (q0 := 0) rfl rfl hl.1 rfl (Nat.le_of_ble_eq_true rfl) dX1_isPump_2 ⟨Nat.le_of_ble_eq_true rfl, Nat.le_of_ble_eq_true rfl⟩ (fun ce q9 H locs hP hD hS hce hcv hcl => ?_)
  subst hQ
  exact MT.out hlocks htab hK hP hD hS hce hcv hcl (Nat.le_of_ble_eq_true rfl) (Nat.le_of_ble_eq_true rfl)

abbrev rmX1_isOpen_n : Room := { frames := 7, cells := 1, slots := 6, locals := 121 }
theorem b_X1_isOpen : Cond.instanceMethod yX1_isOpen ∈ LW ∧ Cond.selects RX1 yX1_isOpen yX1_isOpen ∈ LW ∧ Cond.initialized RX1 ∈ LW ∧ Cond.code yX1_isOpen cX1_isOpen 2 (some .boolean) ∈ LW := ⟨q420, q421, q38, q422⟩
set_option maxHeartbeats 4000000 in
set_option maxRecDepth 100000 in
theorem c_X1_isOpen_n (l : Launch) (hl9 : l.stackTraces = false) (D : va_G) (cI cZ cL : ClassId) (ob h : Nat) (a : Nat → Nat) (h2 : Nat) (a2 : Nat → Nat) (σ τ : Sg) (x : Int32) (hf : hasF 1 σ x = 0) : MT l yX1_isOpen cX1_isOpen 2 (some .boolean) rmX1_isOpen_n D (tZ cI cZ cL) [.ref ob, .int x] ((oC ob h h2) ++ ((mC cI cZ h a σ) ++ (mC cI cZ h2 a2 τ))) eIOB := by
  refine MT.of (by decide) (Nat.le_of_ble_eq_true rfl) ?_
  intro p e s m args below meth c A ls Q hx hb hml hr hts hown hlocks hA hP hD hK hS hl hQ hE htab
  have hown : s.vm.findClass RX1 = some m.cls := hown
  have hl : lv_has ls 2 [(0, .ref ob), (1, .int x)] := hl
  refine lv_aload_n hx hb dX1_isOpen_0 rfl (lv_at hl 0 rfl) ?_
  refine lv_iload_n hx hb dX1_isOpen_1 rfl (lv_at hl 1 rfl) ?_
  refine MT.callV (C := RX1) (T := TX1) (N := 2) (As := [.int x]) (rest := []) (c_X1_requireDrain_no l hl9 D cI cZ cL ob h a h2 a2 σ τ x hf) ⟨hx, hb, hml, hown, hts⟩ q423 b_X1_requireDrain (n := 1) (by decide +kernel) ⟨Nat.le_of_ble_eq_true rfl, Nat.le_of_ble_eq_true rfl⟩ hK hP hD hS hA hE (sp0 _) (ci := 1) rfl (q0 := 0) rfl rfl hl.1 rfl (Nat.le_of_ble_eq_true rfl) dX1_isOpen_2 ⟨Nat.le_of_ble_eq_true rfl, Nat.le_of_ble_eq_true rfl⟩ (fun ce q9 H locs hP hD hS hce hcv hcl => ?_)
  subst hQ
  exact MT.out hlocks htab hK hP hD hS hce hcv hcl (Nat.le_of_ble_eq_true rfl) (Nat.le_of_ble_eq_true rfl)

abbrev rmX1_carriedBy_n : Room := { frames := 7, cells := 1, slots := 6, locals := 121 }
theorem b_X1_carriedBy : Cond.instanceMethod yX1_carriedBy ∈ LW ∧ Cond.selects RX1 yX1_carriedBy yX1_carriedBy ∈ LW ∧ Cond.initialized RX1 ∈ LW ∧ Cond.code yX1_carriedBy cX1_carriedBy 2 (some .int) ∈ LW := ⟨q430, q431, q38, q432⟩
set_option maxHeartbeats 4000000 in
set_option maxRecDepth 100000 in
theorem c_X1_carriedBy_n (l : Launch) (hl9 : l.stackTraces = false) (D : va_G) (cI cZ cL : ClassId) (ob h : Nat) (a : Nat → Nat) (h2 : Nat) (a2 : Nat → Nat) (σ τ : Sg) (x : Int32) (hf : hasF 1 σ x = 0) : MT l yX1_carriedBy cX1_carriedBy 2 (some .int) rmX1_carriedBy_n D (tZ cI cZ cL) [.ref ob, .int x] ((oC ob h h2) ++ ((mC cI cZ h a σ) ++ (mC cI cZ h2 a2 τ))) eIOB := by
  refine MT.of (by decide) (Nat.le_of_ble_eq_true rfl) ?_
  intro p e s m args below meth c A ls Q hx hb hml hr hts hown hlocks hA hP hD hK hS hl hQ hE htab
  have hown : s.vm.findClass RX1 = some m.cls := hown
  have hl : lv_has ls 2 [(0, .ref ob), (1, .int x)] := hl
  refine lv_aload_n hx hb dX1_carriedBy_0 rfl (lv_at hl 0 rfl) ?_
  refine lv_iload_n hx hb dX1_carriedBy_1 rfl (lv_at hl 1 rfl) ?_
  refine MT.callV (C := RX1) (T := TX1) (N := 2) (As := [.int x]) (rest := []) (c_X1_requireDrain_no l hl9 D cI cZ cL ob h a h2 a2 σ τ x hf) ⟨hx, hb, hml, hown, hts⟩ q423 b_X1_requireDrain (n := 1) (by decide +kernel) ⟨Nat.le_of_ble_eq_true rfl, Nat.le_of_ble_eq_true rfl⟩ hK hP hD hS hA hE (sp0 _) (ci := 1) rfl (q0 := 0) rfl rfl hl.1 rfl (Nat.le_of_ble_eq_true rfl) dX1_carriedBy_2 ⟨Nat.le_of_ble_eq_true rfl, Nat.le_of_ble_eq_true rfl⟩ (fun ce q9 H locs hP hD hS hce hcv hcl => ?_)
  subst hQ
  exact MT.out hlocks htab hK hP hD hS hce hcv hcl (Nat.le_of_ble_eq_true rfl) (Nat.le_of_ble_eq_true rfl)

abbrev rmX1_wouldCarry_n : Room := { frames := 7, cells := 1, slots := 6, locals := 121 }
theorem b_X1_wouldCarry : Cond.instanceMethod yX1_wouldCarry ∈ LW ∧ Cond.selects RX1 yX1_wouldCarry yX1_wouldCarry ∈ LW ∧ Cond.initialized RX1 ∈ LW ∧ Cond.code yX1_wouldCarry cX1_wouldCarry 2 (some .int) ∈ LW := ⟨q434, q435, q38, q436⟩
set_option maxHeartbeats 4000000 in
set_option maxRecDepth 100000 in
theorem c_X1_wouldCarry_n (l : Launch) (hl9 : l.stackTraces = false) (D : va_G) (cI cZ cL : ClassId) (ob h : Nat) (a : Nat → Nat) (h2 : Nat) (a2 : Nat → Nat) (σ τ : Sg) (x : Int32) (hf : hasF 1 σ x = 0) : MT l yX1_wouldCarry cX1_wouldCarry 2 (some .int) rmX1_wouldCarry_n D (tZ cI cZ cL) [.ref ob, .int x] ((oC ob h h2) ++ ((mC cI cZ h a σ) ++ (mC cI cZ h2 a2 τ))) eIOB := by
  refine MT.of (by decide) (Nat.le_of_ble_eq_true rfl) ?_
  intro p e s m args below meth c A ls Q hx hb hml hr hts hown hlocks hA hP hD hK hS hl hQ hE htab
  have hown : s.vm.findClass RX1 = some m.cls := hown
  have hl : lv_has ls 2 [(0, .ref ob), (1, .int x)] := hl
  refine lv_aload_n hx hb dX1_wouldCarry_0 rfl (lv_at hl 0 rfl) ?_
  refine lv_iload_n hx hb dX1_wouldCarry_1 rfl (lv_at hl 1 rfl) ?_
  refine MT.callV (C := RX1) (T := TX1) (N := 2) (As := [.int x]) (rest := []) (c_X1_requireDrain_no l hl9 D cI cZ cL ob h a h2 a2 σ τ x hf) ⟨hx, hb, hml, hown, hts⟩ q423 b_X1_requireDrain (n := 1) (by decide +kernel) ⟨Nat.le_of_ble_eq_true rfl, Nat.le_of_ble_eq_true rfl⟩ hK hP hD hS hA hE (sp0 _) (ci := 1) rfl (q0 := 0) rfl rfl hl.1 rfl (Nat.le_of_ble_eq_true rfl) dX1_wouldCarry_2 ⟨Nat.le_of_ble_eq_true rfl, Nat.le_of_ble_eq_true rfl⟩ (fun ce q9 H locs hP hD hS hce hcv hcl => ?_)
  subst hQ
  exact MT.out hlocks htab hK hP hD hS hce hcv hcl (Nat.le_of_ble_eq_true rfl) (Nat.le_of_ble_eq_true rfl)

abbrev rmX1_hoursUntilRuined_n : Room := { frames := 7, cells := 1, slots := 6, locals := 121 }
theorem b_X1_hoursUntilRuined : Cond.instanceMethod yX1_hoursUntilRuined ∈ LW ∧ Cond.selects RX1 yX1_hoursUntilRuined yX1_hoursUntilRuined ∈ LW ∧ Cond.initialized RX1 ∈ LW ∧ Cond.code yX1_hoursUntilRuined cX1_hoursUntilRuined 3 (some .int) ∈ LW := ⟨q411, q412, q38, q413⟩
set_option maxHeartbeats 4000000 in
set_option maxRecDepth 100000 in
theorem c_X1_hoursUntilRuined_n (l : Launch) (hl9 : l.stackTraces = false) (D : va_G) (cI cZ cL : ClassId) (ob h : Nat) (a : Nat → Nat) (h2 : Nat) (a2 : Nat → Nat) (σ τ : Sg) (x : Int32) (hf : hasF 0 σ x = 0) : MT l yX1_hoursUntilRuined cX1_hoursUntilRuined 3 (some .int) rmX1_hoursUntilRuined_n D (tZ cI cZ cL) [.ref ob, .int x] ((oC ob h h2) ++ ((mC cI cZ h a σ) ++ (mC cI cZ h2 a2 τ))) eIOB := by
  refine MT.of (by decide) (Nat.le_of_ble_eq_true rfl) ?_
  intro p e s m args below meth c A ls Q hx hb hml hr hts hown hlocks hA hP hD hK hS hl hQ hE htab
  have hown : s.vm.findClass RX1 = some m.cls := hown
  have hl : lv_has ls 3 [(0, .ref ob), (1, .int x)] := hl
  refine lv_aload_n hx hb dX1_hoursUntilRuined_0 rfl (lv_at hl 0 rfl) ?_
  refine lv_iload_n hx hb dX1_hoursUntilRuined_1 rfl (lv_at hl 1 rfl) ?_
  refine MT.callV (C := RX1) (T := TX1) (N := 2) (As := [.int x]) (rest := []) (c_X1_requireField_no l hl9 D cI cZ cL ob h a h2 a2 σ τ x hf) ⟨hx, hb, hml, hown, hts⟩ q363 b_X1_requireField (n := 1) (by decide +kernel) ⟨Nat.le_of_ble_eq_true rfl, Nat.le_of_ble_eq_true rfl⟩ hK hP hD hS hA hE (sp0 _) (ci := 1) rfl (q0 := 0) rfl rfl hl.1 rfl (Nat.le_of_ble_eq_true rfl) dX1_hoursUntilRuined_2 ⟨Nat.le_of_ble_eq_true rfl, Nat.le_of_ble_eq_true rfl⟩ (fun ce q9 H locs hP hD hS hce hcv hcl => ?_)
  subst hQ
  exact MT.out hlocks htab hK hP hD hS hce hcv hcl (Nat.le_of_ble_eq_true rfl) (Nat.le_of_ble_eq_true rfl)

abbrev rmX1_waterIn_n : Room := { frames := 7, cells := 1, slots := 6, locals := 127 }
theorem b_X1_waterIn : Cond.instanceMethod yX1_waterIn ∈ LW ∧ Cond.selects RX1 yX1_waterIn yX1_waterIn ∈ LW ∧ Cond.initialized RX1 ∈ LW ∧ Cond.code yX1_waterIn cX1_waterIn 3 (some .int) ∈ LW := ⟨q579, q580, q38, q581⟩
set_option maxHeartbeats 4000000 in
set_option maxRecDepth 100000 in
theorem c_X1_waterIn_n (l : Launch) (hl9 : l.stackTraces = false) (D : va_G) (cI cZ cL : ClassId) (ob h : Nat) (a : Nat → Nat) (h2 : Nat) (a2 : Nat → Nat) (σ τ : Sg) (x y : Int32) (hf : hasF 0 σ x = 0) : MT l yX1_waterIn cX1_waterIn 3 (some .int) rmX1_waterIn_n D (tZ cI cZ cL) [.ref ob, .int x, .int y] ((oC ob h h2) ++ ((mC cI cZ h a σ) ++ (mC cI cZ h2 a2 τ))) eIOB := by
  refine MT.of (by decide) (Nat.le_of_ble_eq_true rfl) ?_
  intro p e s m args below meth c A ls Q hx hb hml hr hts hown hlocks hA hP hD hK hS hl hQ hE htab
  have hown : s.vm.findClass RX1 = some m.cls := hown
  have hl : lv_has ls 3 [(0, .ref ob), (1, .int x), (2, .int y)] := hl
  refine lv_aload_n hx hb dX1_waterIn_0 rfl (lv_at hl 0 rfl) ?_
  refine lv_iload_n hx hb dX1_waterIn_1 rfl (lv_at hl 1 rfl) ?_
  refine MT.callV (C := RX1) (T := TX1) (N := 2) (As := [.int x]) (rest := []) (c_X1_requireField_no l hl9 D cI cZ cL ob h a h2 a2 σ τ x hf) ⟨hx, hb, hml, hown, hts⟩ q363 b_X1_requireField (n := 1) (by decide +kernel) ⟨Nat.le_of_ble_eq_true rfl, Nat.le_of_ble_eq_true rfl⟩ hK hP hD hS hA hE (sp0 _) (ci := 1) rfl (q0 := 0) rfl rfl hl.1 rfl (Nat.le_of_ble_eq_true rfl) dX1_waterIn_2 ⟨Nat.le_of_ble_eq_true rfl, Nat.le_of_ble_eq_true rfl⟩ (fun ce q9 H locs hP hD hS hce hcv hcl => ?_)
  subst hQ
  exact MT.out hlocks htab hK hP hD hS hce hcv hcl (Nat.le_of_ble_eq_true rfl) (Nat.le_of_ble_eq_true rfl)

abbrev rmX1_setRain_n : Room := { frames := 7, cells := 1, slots := 6, locals := 122 }
theorem b_X1_setRain : Cond.instanceMethod yX1_setRain ∈ LW ∧ Cond.selects RX1 yX1_setRain yX1_setRain ∈ LW ∧ Cond.initialized RX1 ∈ LW ∧ Cond.code yX1_setRain cX1_setRain 3 (some .int) ∈ LW := ⟨q504, q505, q38, q506⟩
set_option maxHeartbeats 4000000 in
set_option maxRecDepth 100000 in
theorem c_X1_setRain_n (l : Launch) (hl9 : l.stackTraces = false) (D : va_G) (cI cZ cL : ClassId) (ob h : Nat) (a : Nat → Nat) (h2 : Nat) (a2 : Nat → Nat) (σ τ : Sg) (x : Int32) (hr0 : inR x 0 9 = 0) : MT l yX1_setRain cX1_setRain 3 (some .int) rmX1_setRain_n D (tZ cI cZ cL) [.ref ob, .int x] ((oC ob h h2) ++ ((mC cI cZ h a σ) ++ (mC cI cZ h2 a2 τ))) eIAE := by
  refine MT.of (by decide) (Nat.le_of_ble_eq_true rfl) ?_
  intro p e s m args below meth c A ls Q hx hb hml hr hts hown hlocks hA hP hD hK hS hl hQ hE htab
  have hown : s.vm.findClass RX1 = some m.cls := hown
  have hl : lv_has ls 3 [(0, .ref ob), (1, .int x)] := hl
  refine lv_iload_n hx hb dX1_setRain_0 rfl (lv_at hl 1 rfl) ?_
  refine lv_iconst (v := 0) hx hb dX1_setRain_1 (by decide) ?_
  refine lv_bipush (v := 9) hx hb dX1_setRain_2 (by decide) ?_
  refine MT.callS (As := [.int x, .int 0, .int 9]) (rest := []) (c_X1_requireWithin_no l hl9 D cI cZ cL x 0 9 hr0) ⟨hx, hb, hml, hown, hts⟩ q277 b_X1_requireWithin (n := 3) (by decide +kernel) ⟨Nat.le_of_ble_eq_true rfl, Nat.le_of_ble_eq_true rfl⟩ hK hP hD hS hA hE (spE _) rfl hl.1 rfl (Nat.le_of_ble_eq_true rfl) dX1_setRain_4 ⟨Nat.le_of_ble_eq_true rfl, Nat.le_of_ble_eq_true rfl⟩ (fun ce q9 H locs hP hD hS hce hcv hcl => ?_)
  subst hQ
  exact MT.out hlocks htab hK hP hD hS hce hcv hcl (Nat.le_of_ble_eq_true rfl) (Nat.le_of_ble_eq_true rfl)

abbrev rmX1_pass_n : Room := { frames := 7, cells := 1, slots := 6, locals := 127 }
theorem b_X1_pass : Cond.instanceMethod yX1_pass ∈ LW ∧ Cond.selects RX1 yX1_pass yX1_pass ∈ LW ∧ Cond.initialized RX1 ∈ LW ∧ Cond.code yX1_pass cX1_pass 3 (some .int) ∈ LW := ⟨q518, q519, q38, q520⟩
set_option maxHeartbeats 4000000 in
set_option maxRecDepth 100000 in
theorem c_X1_pass_n (l : Launch) (hl9 : l.stackTraces = false) (D : va_G) (cI cZ cL : ClassId) (ob h : Nat) (a : Nat → Nat) (h2 : Nat) (a2 : Nat → Nat) (σ τ : Sg) (x : Int32) (hr0 : inR x 1 48 = 0) : MT l yX1_pass cX1_pass 3 (some .int) rmX1_pass_n D (tZ cI cZ cL) [.ref ob, .int x] ((oC ob h h2) ++ ((mC cI cZ h a σ) ++ (mC cI cZ h2 a2 τ))) eIAE := by
  refine MT.of (by decide) (Nat.le_of_ble_eq_true rfl) ?_
  intro p e s m args below meth c A ls Q hx hb hml hr hts hown hlocks hA hP hD hK hS hl hQ hE htab
  have hown : s.vm.findClass RX1 = some m.cls := hown
  have hl : lv_has ls 3 [(0, .ref ob), (1, .int x)] := hl
  refine lv_iload_n hx hb dX1_pass_0 rfl (lv_at hl 1 rfl) ?_
  refine lv_iconst (v := 1) hx hb dX1_pass_1 (by decide) ?_
  refine lv_bipush (v := 48) hx hb dX1_pass_2 (by decide) ?_
  refine MT.callS (As := [.int x, .int 1, .int 48]) (rest := []) (c_X1_requireWithin_no l hl9 D cI cZ cL x 1 48 hr0) ⟨hx, hb, hml, hown, hts⟩ q277 b_X1_requireWithin (n := 3) (by decide +kernel) ⟨Nat.le_of_ble_eq_true rfl, Nat.le_of_ble_eq_true rfl⟩ hK hP hD hS hA hE (spE _) rfl hl.1 rfl (Nat.le_of_ble_eq_true rfl) dX1_pass_4 ⟨Nat.le_of_ble_eq_true rfl, Nat.le_of_ble_eq_true rfl⟩ (fun ce q9 H locs hP hD hS hce hcv hcl => ?_)
  subst hQ
  exact MT.out hlocks htab hK hP hD hS hce hcv hcl (Nat.le_of_ble_eq_true rfl) (Nat.le_of_ble_eq_true rfl)

abbrev rmX1_lossIn_n : Room := { frames := 7, cells := 1, slots := 6, locals := 127 }
theorem b_X1_lossIn : Cond.instanceMethod yX1_lossIn ∈ LW ∧ Cond.selects RX1 yX1_lossIn yX1_lossIn ∈ LW ∧ Cond.initialized RX1 ∈ LW ∧ Cond.code yX1_lossIn cX1_lossIn 2 (some .int) ∈ LW := ⟨q274, q275, q38, q276⟩
set_option maxHeartbeats 4000000 in
set_option maxRecDepth 100000 in
theorem c_X1_lossIn_n (l : Launch) (hl9 : l.stackTraces = false) (D : va_G) (cI cZ cL : ClassId) (ob h : Nat) (a : Nat → Nat) (h2 : Nat) (a2 : Nat → Nat) (σ τ : Sg) (x : Int32) (hr0 : inR x 1 48 = 0) : MT l yX1_lossIn cX1_lossIn 2 (some .int) rmX1_lossIn_n D (tZ cI cZ cL) [.ref ob, .int x] ((oC ob h h2) ++ ((mC cI cZ h a σ) ++ (mC cI cZ h2 a2 τ))) eIAE := by
  refine MT.of (by decide) (Nat.le_of_ble_eq_true rfl) ?_
  intro p e s m args below meth c A ls Q hx hb hml hr hts hown hlocks hA hP hD hK hS hl hQ hE htab
  have hown : s.vm.findClass RX1 = some m.cls := hown
  have hl : lv_has ls 2 [(0, .ref ob), (1, .int x)] := hl
  refine lv_iload_n hx hb dX1_lossIn_0 rfl (lv_at hl 1 rfl) ?_
  refine lv_iconst (v := 1) hx hb dX1_lossIn_1 (by decide) ?_
  refine lv_bipush (v := 48) hx hb dX1_lossIn_2 (by decide) ?_
  refine MT.callS (As := [.int x, .int 1, .int 48]) (rest := []) (c_X1_requireWithin_no l hl9 D cI cZ cL x 1 48 hr0) ⟨hx, hb, hml, hown, hts⟩ q277 b_X1_requireWithin (n := 3) (by decide +kernel) ⟨Nat.le_of_ble_eq_true rfl, Nat.le_of_ble_eq_true rfl⟩ hK hP hD hS hA hE (spE _) rfl hl.1 rfl (Nat.le_of_ble_eq_true rfl) dX1_lossIn_4 ⟨Nat.le_of_ble_eq_true rfl, Nat.le_of_ble_eq_true rfl⟩ (fun ce q9 H locs hP hD hS hce hcv hcl => ?_)
  subst hQ
  exact MT.out hlocks htab hK hP hD hS hce hcv hcl (Nat.le_of_ble_eq_true rfl) (Nat.le_of_ble_eq_true rfl)

abbrev rmX1_bestToFlood_n : Room := { frames := 7, cells := 1, slots := 6, locals := 127 }
theorem b_X1_bestToFlood : Cond.instanceMethod yX1_bestToFlood ∈ LW ∧ Cond.selects RX1 yX1_bestToFlood yX1_bestToFlood ∈ LW ∧ Cond.initialized RX1 ∈ LW ∧ Cond.code yX1_bestToFlood cX1_bestToFlood 6 (some .int) ∈ LW := ⟨q350, q351, q38, q352⟩
set_option maxHeartbeats 4000000 in
set_option maxRecDepth 100000 in
theorem c_X1_bestToFlood_n (l : Launch) (hl9 : l.stackTraces = false) (D : va_G) (cI cZ cL : ClassId) (ob h : Nat) (a : Nat → Nat) (h2 : Nat) (a2 : Nat → Nat) (σ τ : Sg) (x : Int32) (hr0 : inR x 1 50 = 0) : MT l yX1_bestToFlood cX1_bestToFlood 6 (some .int) rmX1_bestToFlood_n D (tZ cI cZ cL) [.ref ob, .int x] ((oC ob h h2) ++ ((mC cI cZ h a σ) ++ (mC cI cZ h2 a2 τ))) eIAE := by
  refine MT.of (by decide) (Nat.le_of_ble_eq_true rfl) ?_
  intro p e s m args below meth c A ls Q hx hb hml hr hts hown hlocks hA hP hD hK hS hl hQ hE htab
  have hown : s.vm.findClass RX1 = some m.cls := hown
  have hl : lv_has ls 6 [(0, .ref ob), (1, .int x)] := hl
  refine lv_iload_n hx hb dX1_bestToFlood_0 rfl (lv_at hl 1 rfl) ?_
  refine lv_iconst (v := 1) hx hb dX1_bestToFlood_1 (by decide) ?_
  refine lv_bipush (v := 50) hx hb dX1_bestToFlood_2 (by decide) ?_
  refine MT.callS (As := [.int x, .int 1, .int 50]) (rest := []) (c_X1_requireWithin_no l hl9 D cI cZ cL x 1 50 hr0) ⟨hx, hb, hml, hown, hts⟩ q277 b_X1_requireWithin (n := 3) (by decide +kernel) ⟨Nat.le_of_ble_eq_true rfl, Nat.le_of_ble_eq_true rfl⟩ hK hP hD hS hA hE (spE _) rfl hl.1 rfl (Nat.le_of_ble_eq_true rfl) dX1_bestToFlood_4 ⟨Nat.le_of_ble_eq_true rfl, Nat.le_of_ble_eq_true rfl⟩ (fun ce q9 H locs hP hD hS hce hcv hcl => ?_)
  subst hQ
  exact MT.out hlocks htab hK hP hD hS hce hcv hcl (Nat.le_of_ble_eq_true rfl) (Nat.le_of_ble_eq_true rfl)

abbrev rmX1_flood_m : Room := { frames := 7, cells := 1, slots := 6, locals := 122 }
set_option maxHeartbeats 4000000 in
set_option maxRecDepth 100000 in
theorem c_X1_flood_m (l : Launch) (hl9 : l.stackTraces = false) (D : va_G) (cI cZ cL : ClassId) (ob h : Nat) (a : Nat → Nat) (h2 : Nat) (a2 : Nat → Nat) (σ τ : Sg) (x y : Int32) (hf : hasF 0 σ x = 1) (hr0 : inR y 1 50 = 0) : MT l yX1_flood cX1_flood 3 (some .int) rmX1_flood_m D (tZ cI cZ cL) [.ref ob, .int x, .int y] ((oC ob h h2) ++ ((mC cI cZ h a σ) ++ (mC cI cZ h2 a2 τ))) eIAE := by
  refine MT.of (by decide) (Nat.le_of_ble_eq_true rfl) ?_
  intro p e s m args below meth c A ls Q hx hb hml hr hts hown hlocks hA hP hD hK hS hl hQ hE htab
  have hown : s.vm.findClass RX1 = some m.cls := hown
  have hl : lv_has ls 3 [(0, .ref ob), (1, .int x), (2, .int y)] := hl
  refine lv_aload_n hx hb dX1_flood_0 rfl (lv_at hl 0 rfl) ?_
  refine lv_iload_n hx hb dX1_flood_1 rfl (lv_at hl 1 rfl) ?_
  refine MC.callV (C := RX1) (T := TX1) (N := 2) (As := [.int x]) (rest := []) (wB := (oC ob h h2) ++ ((mC cI cZ h a σ) ++ (mC cI cZ h2 a2 τ))) (c_X1_requireField_ok l D cI cZ cL ob h a h2 a2 σ τ x (hf)) ⟨hx, hb, hml, hown, hts⟩ q363 b_X1_requireField (n := 1) (by decide +kernel) ⟨Nat.le_of_ble_eq_true rfl, Nat.le_of_ble_eq_true rfl⟩ hK hP hD hS hA (sp0 _) (sp0 _) (ci := 1) rfl (q0 := 0) rfl rfl hl.1 rfl (Nat.le_of_ble_eq_true rfl) dX1_flood_2 ⟨Nat.le_of_ble_eq_true rfl, Nat.le_of_ble_eq_true rfl⟩ (fun H locs hP hD hS => ?_)
  refine lv_iload_n hx hb dX1_flood_5 rfl (lv_at hl 2 rfl) ?_
  refine lv_iconst (v := 1) hx hb dX1_flood_6 (by decide) ?_
  refine lv_bipush (v := 50) hx hb dX1_flood_7 (by decide) ?_
  refine MT.callS (As := [.int y, .int 1, .int 50]) (rest := []) (c_X1_requireWithin_no l hl9 D cI cZ cL y 1 50 hr0) ⟨hx, hb, hml, hown, hts⟩ q277 b_X1_requireWithin (n := 3) (by decide +kernel) ⟨Nat.le_of_ble_eq_true rfl, Nat.le_of_ble_eq_true rfl⟩ hK hP hD hS hA hE (spE _) rfl hl.1 rfl (Nat.le_of_ble_eq_true rfl) dX1_flood_9 ⟨Nat.le_of_ble_eq_true rfl, Nat.le_of_ble_eq_true rfl⟩ (fun ce q9 H locs hP hD hS hce hcv hcl => ?_)
  subst hQ
  exact MT.out hlocks htab hK hP hD hS hce hcv hcl (Nat.le_of_ble_eq_true rfl) (Nat.le_of_ble_eq_true rfl)

abbrev rmX1_waterIn_m : Room := { frames := 7, cells := 1, slots := 6, locals := 127 }
set_option maxHeartbeats 4000000 in
set_option maxRecDepth 100000 in
theorem c_X1_waterIn_m (l : Launch) (hl9 : l.stackTraces = false) (D : va_G) (cI cZ cL : ClassId) (ob h : Nat) (a : Nat → Nat) (h2 : Nat) (a2 : Nat → Nat) (σ τ : Sg) (x y : Int32) (hf : hasF 0 σ x = 1) (hr0 : inR y 1 48 = 0) : MT l yX1_waterIn cX1_waterIn 3 (some .int) rmX1_waterIn_m D (tZ cI cZ cL) [.ref ob, .int x, .int y] ((oC ob h h2) ++ ((mC cI cZ h a σ) ++ (mC cI cZ h2 a2 τ))) eIAE := by
  refine MT.of (by decide) (Nat.le_of_ble_eq_true rfl) ?_
  intro p e s m args below meth c A ls Q hx hb hml hr hts hown hlocks hA hP hD hK hS hl hQ hE htab
  have hown : s.vm.findClass RX1 = some m.cls := hown
  have hl : lv_has ls 3 [(0, .ref ob), (1, .int x), (2, .int y)] := hl
  refine lv_aload_n hx hb dX1_waterIn_0 rfl (lv_at hl 0 rfl) ?_
  refine lv_iload_n hx hb dX1_waterIn_1 rfl (lv_at hl 1 rfl) ?_
  refine MC.callV (C := RX1) (T := TX1) (N := 2) (As := [.int x]) (rest := []) (wB := (oC ob h h2) ++ ((mC cI cZ h a σ) ++ (mC cI cZ h2 a2 τ))) (c_X1_requireField_ok l D cI cZ cL ob h a h2 a2 σ τ x (hf)) ⟨hx, hb, hml, hown, hts⟩ q363 b_X1_requireField (n := 1) (by decide +kernel) ⟨Nat.le_of_ble_eq_true rfl, Nat.le_of_ble_eq_true rfl⟩ hK hP hD hS hA (sp0 _) (sp0 _) (ci := 1) rfl (q0 := 0) rfl rfl hl.1 rfl (Nat.le_of_ble_eq_true rfl) dX1_waterIn_2 ⟨Nat.le_of_ble_eq_true rfl, Nat.le_of_ble_eq_true rfl⟩ (fun H locs hP hD hS => ?_)
  refine lv_iload_n hx hb dX1_waterIn_5 rfl (lv_at hl 2 rfl) ?_
  refine lv_iconst (v := 1) hx hb dX1_waterIn_6 (by decide) ?_
  refine lv_bipush (v := 48) hx hb dX1_waterIn_7 (by decide) ?_
  refine MT.callS (As := [.int y, .int 1, .int 48]) (rest := []) (c_X1_requireWithin_no l hl9 D cI cZ cL y 1 48 hr0) ⟨hx, hb, hml, hown, hts⟩ q277 b_X1_requireWithin (n := 3) (by decide +kernel) ⟨Nat.le_of_ble_eq_true rfl, Nat.le_of_ble_eq_true rfl⟩ hK hP hD hS hA hE (spE _) rfl hl.1 rfl (Nat.le_of_ble_eq_true rfl) dX1_waterIn_9 ⟨Nat.le_of_ble_eq_true rfl, Nat.le_of_ble_eq_true rfl⟩ (fun ce q9 H locs hP hD hS hce hcv hcl => ?_)
  subst hQ
  exact MT.out hlocks htab hK hP hD hS hce hcv hcl (Nat.le_of_ble_eq_true rfl) (Nat.le_of_ble_eq_true rfl)
