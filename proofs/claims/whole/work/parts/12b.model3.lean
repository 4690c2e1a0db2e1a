abbrev rmX2_rainBorne : Room := { frames := 8, cells := 0, slots := 0, locals := 195 }
theorem b_X2_rainBorne : Cond.instanceMethod yX2_rainBorne ∈ LW ∧ Cond.selects RX2 yX2_rainBorne yX2_rainBorne ∈ LW ∧ Cond.initialized RX2 ∈ LW ∧ Cond.code yX2_rainBorne cX2_rainBorne 1 (some .int) ∈ LW := ⟨q892, q893, q40, q894⟩
set_option maxHeartbeats 4000000 in
set_option maxRecDepth 100000 in
theorem c_X2_rainBorne (l : Launch) (D : va_G) (cI cZ cL : ClassId) {n k : Nat} (o : Nat) (b : Nat → Nat) (σ : Sg) (κ ζ : Nat → Int32) (th : Int32) (hst : Shp n k σ) {B : Nat} (hB : Bnd B σ) (hB2 : B + 6300 < 2 ^ 29) : MC l yX2_rainBorne cX2_rainBorne 1 (some .int) rmX2_rainBorne D (tZ cI cZ cL) [.ref o] (rC cI cZ o b σ κ ζ th) (rC cI cZ o b σ (nowF σ) ζ 0) (some (.int (borneS σ))) := by
  refine MC.of (by decide) (Nat.le_of_ble_eq_true rfl) ?_
  intro p e s m args below meth c A ls Q hx hb hml hr hts hown hlocks hA hP hD hK hS hl hQ
  have hown : s.vm.findClass RX2 = some m.cls := hown
  have hl : lv_has ls 1 [(0, .ref o)] := hl
  refine lv_aload_n hx hb dX2_rainBorne_0 rfl (lv_at hl 0 rfl) ?_
  refine lv_aload_n hx hb dX2_rainBorne_1 rfl (lv_at hl 0 rfl) ?_
  refine MC.callV (C := RX2) (T := TX2) (N := 14) (As := []) (rest := [.ref o]) (wB := rC cI cZ o b σ (nowF σ) ζ th) (c_X2_borne l D cI cZ cL o b σ κ ζ th hst hB (by omega)) ⟨hx, hb, hml, hown, hts⟩ q895 b_X2_borne (n := 0) (by decide +kernel) ⟨Nat.le_of_ble_eq_true rfl, Nat.le_of_ble_eq_true rfl⟩ hK hP hD hS hA (sp0 _) (sp0 _) (ci := 2) rfl (q0 := 0) rfl rfl hl.1 rfl (Nat.le_of_ble_eq_true rfl) dX2_rainBorne_2 ⟨Nat.le_of_ble_eq_true rfl, Nat.le_of_ble_eq_true rfl⟩ (fun H locs hP hD hS => ?_)
  refine MC.callV (C := RX2) (T := TX2) (N := 14) (As := [.int (borneS σ)]) (rest := []) (wB := rC cI cZ o b σ (nowF σ) ζ 0) (c_X2_ok l D cI cZ cL o b σ (nowF σ) ζ th (borneS σ)) ⟨hx, hb, hml, hown, hts⟩ q724 b_X2_ok (n := 1) (by decide +kernel) ⟨Nat.le_of_ble_eq_true rfl, Nat.le_of_ble_eq_true rfl⟩ hK hP hD hS hA (sp0 _) (sp0 _) (ci := 2) rfl (q0 := 0) rfl rfl hl.1 rfl (Nat.le_of_ble_eq_true rfl) dX2_rainBorne_5 ⟨Nat.le_of_ble_eq_true rfl, Nat.le_of_ble_eq_true rfl⟩ (fun H locs hP hD hS => ?_)
  subst hQ
  exact ri hx hb hr hlocks hK hP hD hS dX2_rainBorne_8 (rfl) (rfl)

abbrev rmX2_of : Room := { frames := 2, cells := 0, slots := 0, locals := 43 }
theorem b_X2_of : Cond.instanceMethod yX2_of ∈ LW ∧ Cond.selects RX2 yX2_of yX2_of ∈ LW ∧ Cond.initialized RX2 ∈ LW ∧ Cond.code yX2_of cX2_of 3 (some .int) ∈ LW := ⟨q778, q24, q40, q779⟩
set_option maxHeartbeats 4000000 in
set_option maxRecDepth 100000 in
theorem c_X2_of_2 (l : Launch) (D : va_G) (cI cZ cL : ClassId) {n k : Nat} (o : Nat) (b : Nat → Nat) (σ : Sg) (κ ζ : Nat → Int32) (th : Int32) (hst : Shp n k σ) (x : Int32) : MC l yX2_of cX2_of 3 (some .int) rmX2_of D (tZ cI cZ cL) [.ref o, .int x, .int 2] (rC cI cZ o b σ κ ζ th) (rC cI cZ o b σ κ ζ (if hasF 0 σ x = 0 then 1 else 0)) (some (.int (if hasF 0 σ x = 0 then 0 else σ 2 x.toNatClampNeg))) := by
  refine MC.of (by decide) (Nat.le_of_ble_eq_true rfl) ?_
  intro p e s m args below meth c A ls Q hx hb hml hr hts hown hlocks hA hP hD hK hS hl hQ
  have hown : s.vm.findClass RX2 = some m.cls := hown
  have hn10 := hst.1
  have hk16 := hst.2.1
  have hl : lv_has ls 3 [(0, .ref o), (1, .int x), (2, .int 2)] := hl
  refine lv_aload_n hx hb dX2_of_0 rfl (lv_at hl 0 rfl) ?_
  refine lv_iconst (v := 0) hx hb dX2_of_1 (by decide) ?_
  refine x_put (C := RX2) (T := TX2) (N := 14) (ws2 := rC cI cZ o b σ κ ζ 0) hx hb hts in_wsX20 tyX2_ok nmX2 hown hK hP hD hS 0 rfl rfl 0 (by decide) q592 rfl (by decide +kernel) (Nat.le_of_ble_eq_true rfl) rfl dX2_of_2 (fun H locs hP hD hS => ?_)
  refine lv_aload_n hx hb dX2_of_5 rfl (lv_at hl 0 rfl) ?_
  refine lv_iload_n hx hb dX2_of_6 rfl (lv_at hl 1 rfl) ?_
  refine MC.callV (C := RX2) (T := TX2) (N := 14) (As := [.int x]) (rest := []) (wB := rC cI cZ o b σ κ ζ 0) (c_X2_isField l D cI cZ cL o b σ κ ζ 0 hst x _ rfl) ⟨hx, hb, hml, hown, hts⟩ q654 b_X2_isField (n := 1) (by decide +kernel) ⟨Nat.le_of_ble_eq_true rfl, Nat.le_of_ble_eq_true rfl⟩ hK hP hD hS hA (sp0 _) (sp0 _) (ci := 2) rfl (q0 := 0) rfl rfl hl.1 rfl (Nat.le_of_ble_eq_true rfl) dX2_of_7 ⟨Nat.le_of_ble_eq_true rfl, Nat.le_of_ble_eq_true rfl⟩ (fun H locs hP hD hS => ?_)
  refine lv_if_eq (tgt := 24) hx hb dX2_of_10 (by decide) (fun c_10 => ?_) (fun c_10 => ?_)
  · refine lv_aload_n hx hb dX2_of_24 rfl (lv_at hl 0 rfl) ?_
    refine lv_iconst (v := 1) hx hb dX2_of_25 (by decide) ?_
    refine MC.callV (C := RX2) (T := TX2) (N := 14) (As := [.int 1]) (rest := []) (wB := rC cI cZ o b σ κ ζ 1) (c_X2_no l D cI cZ cL o b σ κ ζ 0 1) ⟨hx, hb, hml, hown, hts⟩ q646 b_X2_no (n := 1) (by decide +kernel) ⟨Nat.le_of_ble_eq_true rfl, Nat.le_of_ble_eq_true rfl⟩ hK hP hD hS hA (sp0 _) (sp0 _) (ci := 2) rfl (q0 := 0) rfl rfl hl.1 rfl (Nat.le_of_ble_eq_true rfl) dX2_of_26 ⟨Nat.le_of_ble_eq_true rfl, Nat.le_of_ble_eq_true rfl⟩ (fun H locs hP hD hS => ?_)
    subst hQ
    exact ri hx hb hr hlocks hK hP hD hS dX2_of_29 (by rw [if_pos c_10]) (by rw [if_pos c_10])
  · obtain ⟨j, hj, ej⟩ : ∃ j, j < n ∧ x = nI j := by
      rcases hasF_iff hst.f0 (by omega) x with q | q
      · exact absurd q.1 c_10
      · exact q.2
    subst ej
    refine lv_aload_n hx hb dX2_of_13 rfl (lv_at hl 0 rfl) ?_
    refine x_get (C := RX2) (T := TX2) (N := 14) hx hb hts in_wsX20 hown hK hP 0 rfl rfl 11 (by decide) q603 (v := .ref (b 7)) rfl dX2_of_14 ?_
    refine lv_iload_n hx hb dX2_of_17 rfl (lv_at hl 2 rfl) ?_
    refine lv_iload_n hx hb dX2_of_18 rfl (lv_at hl 1 rfl) ?_
    refine lv_iadd hx hb dX2_of_19 ?_
    refine x_ild hx hb hK hP 8 0 rfl rfl (2 + j) (nI_add 2 j) (by omega) (by decide) (v := σ 2 j) (nw_2 σ (by omega)) dX2_of_20 ?_
    refine lv_goto (tgt := 29) hx hb dX2_of_21 (by decide) ?_
    subst hQ
    exact ri hx hb hr hlocks hK hP hD hS dX2_of_29 (by rw [if_neg c_10]) (by rw [if_neg c_10, nI_clamp (by omega)])

set_option maxHeartbeats 4000000 in
set_option maxRecDepth 100000 in
theorem c_X2_of_12 (l : Launch) (D : va_G) (cI cZ cL : ClassId) {n k : Nat} (o : Nat) (b : Nat → Nat) (σ : Sg) (κ ζ : Nat → Int32) (th : Int32) (hst : Shp n k σ) (x : Int32) : MC l yX2_of cX2_of 3 (some .int) rmX2_of D (tZ cI cZ cL) [.ref o, .int x, .int 12] (rC cI cZ o b σ κ ζ th) (rC cI cZ o b σ κ ζ (if hasF 0 σ x = 0 then 1 else 0)) (some (.int (if hasF 0 σ x = 0 then 0 else σ 3 x.toNatClampNeg))) := by
  refine MC.of (by decide) (Nat.le_of_ble_eq_true rfl) ?_
  intro p e s m args below meth c A ls Q hx hb hml hr hts hown hlocks hA hP hD hK hS hl hQ
  have hown : s.vm.findClass RX2 = some m.cls := hown
  have hn10 := hst.1
  have hk16 := hst.2.1
  have hl : lv_has ls 3 [(0, .ref o), (1, .int x), (2, .int 12)] := hl
  refine lv_aload_n hx hb dX2_of_0 rfl (lv_at hl 0 rfl) ?_
  refine lv_iconst (v := 0) hx hb dX2_of_1 (by decide) ?_
  refine x_put (C := RX2) (T := TX2) (N := 14) (ws2 := rC cI cZ o b σ κ ζ 0) hx hb hts in_wsX20 tyX2_ok nmX2 hown hK hP hD hS 0 rfl rfl 0 (by decide) q592 rfl (by decide +kernel) (Nat.le_of_ble_eq_true rfl) rfl dX2_of_2 (fun H locs hP hD hS => ?_)
  refine lv_aload_n hx hb dX2_of_5 rfl (lv_at hl 0 rfl) ?_
  refine lv_iload_n hx hb dX2_of_6 rfl (lv_at hl 1 rfl) ?_
  refine MC.callV (C := RX2) (T := TX2) (N := 14) (As := [.int x]) (rest := []) (wB := rC cI cZ o b σ κ ζ 0) (c_X2_isField l D cI cZ cL o b σ κ ζ 0 hst x _ rfl) ⟨hx, hb, hml, hown, hts⟩ q654 b_X2_isField (n := 1) (by decide +kernel) ⟨Nat.le_of_ble_eq_true rfl, Nat.le_of_ble_eq_true rfl⟩ hK hP hD hS hA (sp0 _) (sp0 _) (ci := 2) rfl (q0 := 0) rfl rfl hl.1 rfl (Nat.le_of_ble_eq_true rfl) dX2_of_7 ⟨Nat.le_of_ble_eq_true rfl, Nat.le_of_ble_eq_true rfl⟩ (fun H locs hP hD hS => ?_)
  refine lv_if_eq (tgt := 24) hx hb dX2_of_10 (by decide) (fun c_10 => ?_) (fun c_10 => ?_)
  · refine lv_aload_n hx hb dX2_of_24 rfl (lv_at hl 0 rfl) ?_
    refine lv_iconst (v := 1) hx hb dX2_of_25 (by decide) ?_
    refine MC.callV (C := RX2) (T := TX2) (N := 14) (As := [.int 1]) (rest := []) (wB := rC cI cZ o b σ κ ζ 1) (c_X2_no l D cI cZ cL o b σ κ ζ 0 1) ⟨hx, hb, hml, hown, hts⟩ q646 b_X2_no (n := 1) (by decide +kernel) ⟨Nat.le_of_ble_eq_true rfl, Nat.le_of_ble_eq_true rfl⟩ hK hP hD hS hA (sp0 _) (sp0 _) (ci := 2) rfl (q0 := 0) rfl rfl hl.1 rfl (Nat.le_of_ble_eq_true rfl) dX2_of_26 ⟨Nat.le_of_ble_eq_true rfl, Nat.le_of_ble_eq_true rfl⟩ (fun H locs hP hD hS => ?_)
    subst hQ
    exact ri hx hb hr hlocks hK hP hD hS dX2_of_29 (by rw [if_pos c_10]) (by rw [if_pos c_10])
  · obtain ⟨j, hj, ej⟩ : ∃ j, j < n ∧ x = nI j := by
      rcases hasF_iff hst.f0 (by omega) x with q | q
      · exact absurd q.1 c_10
      · exact q.2
    subst ej
    refine lv_aload_n hx hb dX2_of_13 rfl (lv_at hl 0 rfl) ?_
    refine x_get (C := RX2) (T := TX2) (N := 14) hx hb hts in_wsX20 hown hK hP 0 rfl rfl 11 (by decide) q603 (v := .ref (b 7)) rfl dX2_of_14 ?_
    refine lv_iload_n hx hb dX2_of_17 rfl (lv_at hl 2 rfl) ?_
    refine lv_iload_n hx hb dX2_of_18 rfl (lv_at hl 1 rfl) ?_
    refine lv_iadd hx hb dX2_of_19 ?_
    refine x_ild hx hb hK hP 8 0 rfl rfl (12 + j) (nI_add 12 j) (by omega) (by decide) (v := σ 3 j) (nw_12 σ (by omega)) dX2_of_20 ?_
    refine lv_goto (tgt := 29) hx hb dX2_of_21 (by decide) ?_
    subst hQ
    exact ri hx hb hr hlocks hK hP hD hS dX2_of_29 (by rw [if_neg c_10]) (by rw [if_neg c_10, nI_clamp (by omega)])

abbrev rmX2_waterOn : Room := { frames := 3, cells := 0, slots := 0, locals := 65 }
theorem b_X2_waterOn : Cond.instanceMethod yX2_waterOn ∈ LW ∧ Cond.selects RX2 yX2_waterOn yX2_waterOn ∈ LW ∧ Cond.initialized RX2 ∈ LW ∧ Cond.code yX2_waterOn cX2_waterOn 2 (some .int) ∈ LW := ⟨q773, q774, q40, q775⟩
set_option maxHeartbeats 4000000 in
set_option maxRecDepth 100000 in
theorem c_X2_waterOn (l : Launch) (D : va_G) (cI cZ cL : ClassId) {n k : Nat} (o : Nat) (b : Nat → Nat) (σ : Sg) (κ ζ : Nat → Int32) (th : Int32) (hst : Shp n k σ) (x : Int32) : MC l yX2_waterOn cX2_waterOn 2 (some .int) rmX2_waterOn D (tZ cI cZ cL) [.ref o, .int x] (rC cI cZ o b σ κ ζ th) (rC cI cZ o b σ κ ζ (if hasF 0 σ x = 0 then 1 else 0)) (some (.int (if hasF 0 σ x = 0 then 0 else σ 2 x.toNatClampNeg))) := by
  refine MC.of (by decide) (Nat.le_of_ble_eq_true rfl) ?_
  intro p e s m args below meth c A ls Q hx hb hml hr hts hown hlocks hA hP hD hK hS hl hQ
  have hown : s.vm.findClass RX2 = some m.cls := hown
  have hl : lv_has ls 2 [(0, .ref o), (1, .int x)] := hl
  refine lv_aload_n hx hb dX2_waterOn_0 rfl (lv_at hl 0 rfl) ?_
  refine lv_iload_n hx hb dX2_waterOn_1 rfl (lv_at hl 1 rfl) ?_
  refine lv_iconst (v := 2) hx hb dX2_waterOn_2 (by decide) ?_
  refine MC.callV (C := RX2) (T := TX2) (N := 14) (As := [.int x, .int 2]) (rest := []) (wB := rC cI cZ o b σ κ ζ (if hasF 0 σ x = 0 then 1 else 0)) (c_X2_of_2 l D cI cZ cL o b σ κ ζ th hst x) ⟨hx, hb, hml, hown, hts⟩ q776 b_X2_of (n := 2) (by decide +kernel) ⟨Nat.le_of_ble_eq_true rfl, Nat.le_of_ble_eq_true rfl⟩ hK hP hD hS hA (sp0 _) (sp0 _) (ci := 2) rfl (q0 := 0) rfl rfl hl.1 rfl (Nat.le_of_ble_eq_true rfl) dX2_waterOn_3 ⟨Nat.le_of_ble_eq_true rfl, Nat.le_of_ble_eq_true rfl⟩ (fun H locs hP hD hS => ?_)
  subst hQ
  exact ri hx hb hr hlocks hK hP hD hS dX2_waterOn_6 (rfl) (rfl)

abbrev rmX2_wetFor : Room := { frames := 3, cells := 0, slots := 0, locals := 65 }
theorem b_X2_wetFor : Cond.instanceMethod yX2_wetFor ∈ LW ∧ Cond.selects RX2 yX2_wetFor yX2_wetFor ∈ LW ∧ Cond.initialized RX2 ∈ LW ∧ Cond.code yX2_wetFor cX2_wetFor 2 (some .int) ∈ LW := ⟨q785, q786, q40, q787⟩
set_option maxHeartbeats 4000000 in
set_option maxRecDepth 100000 in
theorem c_X2_wetFor (l : Launch) (D : va_G) (cI cZ cL : ClassId) {n k : Nat} (o : Nat) (b : Nat → Nat) (σ : Sg) (κ ζ : Nat → Int32) (th : Int32) (hst : Shp n k σ) (x : Int32) : MC l yX2_wetFor cX2_wetFor 2 (some .int) rmX2_wetFor D (tZ cI cZ cL) [.ref o, .int x] (rC cI cZ o b σ κ ζ th) (rC cI cZ o b σ κ ζ (if hasF 0 σ x = 0 then 1 else 0)) (some (.int (if hasF 0 σ x = 0 then 0 else σ 3 x.toNatClampNeg))) := by
  refine MC.of (by decide) (Nat.le_of_ble_eq_true rfl) ?_
  intro p e s m args below meth c A ls Q hx hb hml hr hts hown hlocks hA hP hD hK hS hl hQ
  have hown : s.vm.findClass RX2 = some m.cls := hown
  have hl : lv_has ls 2 [(0, .ref o), (1, .int x)] := hl
  refine lv_aload_n hx hb dX2_wetFor_0 rfl (lv_at hl 0 rfl) ?_
  refine lv_iload_n hx hb dX2_wetFor_1 rfl (lv_at hl 1 rfl) ?_
  refine lv_bipush (v := 12) hx hb dX2_wetFor_2 (by decide) ?_
  refine MC.callV (C := RX2) (T := TX2) (N := 14) (As := [.int x, .int 12]) (rest := []) (wB := rC cI cZ o b σ κ ζ (if hasF 0 σ x = 0 then 1 else 0)) (c_X2_of_12 l D cI cZ cL o b σ κ ζ th hst x) ⟨hx, hb, hml, hown, hts⟩ q776 b_X2_of (n := 2) (by decide +kernel) ⟨Nat.le_of_ble_eq_true rfl, Nat.le_of_ble_eq_true rfl⟩ hK hP hD hS hA (sp0 _) (sp0 _) (ci := 2) rfl (q0 := 0) rfl rfl hl.1 rfl (Nat.le_of_ble_eq_true rfl) dX2_wetFor_4 ⟨Nat.le_of_ble_eq_true rfl, Nat.le_of_ble_eq_true rfl⟩ (fun H locs hP hD hS => ?_)
  subst hQ
  exact ri hx hb hr hlocks hK hP hD hS dX2_wetFor_7 (rfl) (rfl)

abbrev rmX2_levelOf : Room := { frames := 2, cells := 0, slots := 0, locals := 43 }
theorem b_X2_levelOf : Cond.instanceMethod yX2_levelOf ∈ LW ∧ Cond.selects RX2 yX2_levelOf yX2_levelOf ∈ LW ∧ Cond.initialized RX2 ∈ LW ∧ Cond.code yX2_levelOf cX2_levelOf 2 (some .int) ∈ LW := ⟨q781, q782, q40, q783⟩
set_option maxHeartbeats 4000000 in
set_option maxRecDepth 100000 in
theorem c_X2_levelOf (l : Launch) (D : va_G) (cI cZ cL : ClassId) {n k : Nat} (o : Nat) (b : Nat → Nat) (σ : Sg) (κ ζ : Nat → Int32) (th : Int32) (hst : Shp n k σ) (x : Int32) : MC l yX2_levelOf cX2_levelOf 2 (some .int) rmX2_levelOf D (tZ cI cZ cL) [.ref o, .int x] (rC cI cZ o b σ κ ζ th) (rC cI cZ o b σ κ ζ (if hasF 0 σ x = 0 then 1 else 0)) (some (.int (if hasF 0 σ x = 0 then 0 else σ 0 x.toNatClampNeg + σ 2 x.toNatClampNeg))) := by
  refine MC.of (by decide) (Nat.le_of_ble_eq_true rfl) ?_
  intro p e s m args below meth c A ls Q hx hb hml hr hts hown hlocks hA hP hD hK hS hl hQ
  have hown : s.vm.findClass RX2 = some m.cls := hown
  have hn10 := hst.1
  have hk16 := hst.2.1
  have hl : lv_has ls 2 [(0, .ref o), (1, .int x)] := hl
  refine lv_aload_n hx hb dX2_levelOf_0 rfl (lv_at hl 0 rfl) ?_
  refine lv_iconst (v := 0) hx hb dX2_levelOf_1 (by decide) ?_
  refine x_put (C := RX2) (T := TX2) (N := 14) (ws2 := rC cI cZ o b σ κ ζ 0) hx hb hts in_wsX20 tyX2_ok nmX2 hown hK hP hD hS 0 rfl rfl 0 (by decide) q592 rfl (by decide +kernel) (Nat.le_of_ble_eq_true rfl) rfl dX2_levelOf_2 (fun H locs hP hD hS => ?_)
  refine lv_aload_n hx hb dX2_levelOf_5 rfl (lv_at hl 0 rfl) ?_
  refine lv_iload_n hx hb dX2_levelOf_6 rfl (lv_at hl 1 rfl) ?_
  refine MC.callV (C := RX2) (T := TX2) (N := 14) (As := [.int x]) (rest := []) (wB := rC cI cZ o b σ κ ζ 0) (c_X2_isField l D cI cZ cL o b σ κ ζ 0 hst x _ rfl) ⟨hx, hb, hml, hown, hts⟩ q654 b_X2_isField (n := 1) (by decide +kernel) ⟨Nat.le_of_ble_eq_true rfl, Nat.le_of_ble_eq_true rfl⟩ hK hP hD hS hA (sp0 _) (sp0 _) (ci := 2) rfl (q0 := 0) rfl rfl hl.1 rfl (Nat.le_of_ble_eq_true rfl) dX2_levelOf_7 ⟨Nat.le_of_ble_eq_true rfl, Nat.le_of_ble_eq_true rfl⟩ (fun H locs hP hD hS => ?_)
  refine lv_if_eq (tgt := 21) hx hb dX2_levelOf_10 (by decide) (fun c_10 => ?_) (fun c_10 => ?_)
  · refine lv_aload_n hx hb dX2_levelOf_21 rfl (lv_at hl 0 rfl) ?_
    refine lv_iconst (v := 1) hx hb dX2_levelOf_22 (by decide) ?_
    refine MC.callV (C := RX2) (T := TX2) (N := 14) (As := [.int 1]) (rest := []) (wB := rC cI cZ o b σ κ ζ 1) (c_X2_no l D cI cZ cL o b σ κ ζ 0 1) ⟨hx, hb, hml, hown, hts⟩ q646 b_X2_no (n := 1) (by decide +kernel) ⟨Nat.le_of_ble_eq_true rfl, Nat.le_of_ble_eq_true rfl⟩ hK hP hD hS hA (sp0 _) (sp0 _) (ci := 2) rfl (q0 := 0) rfl rfl hl.1 rfl (Nat.le_of_ble_eq_true rfl) dX2_levelOf_23 ⟨Nat.le_of_ble_eq_true rfl, Nat.le_of_ble_eq_true rfl⟩ (fun H locs hP hD hS => ?_)
    subst hQ
    exact ri hx hb hr hlocks hK hP hD hS dX2_levelOf_26 (by rw [if_pos c_10]) (by rw [if_pos c_10])
  · obtain ⟨j, hj, ej⟩ : ∃ j, j < n ∧ x = nI j := by
      rcases hasF_iff hst.f0 (by omega) x with q | q
      · exact absurd q.1 c_10
      · exact q.2
    subst ej
    refine lv_aload_n hx hb dX2_levelOf_13 rfl (lv_at hl 0 rfl) ?_
    refine lv_iload_n hx hb dX2_levelOf_14 rfl (lv_at hl 1 rfl) ?_
    refine MC.callV (C := RX2) (T := TX2) (N := 14) (As := [.int (nI j)]) (rest := []) (wB := rC cI cZ o b σ κ ζ 0) (c_X2_level l D cI cZ cL o b σ κ ζ 0 j (by omega)) ⟨hx, hb, hml, hown, hts⟩ q715 b_X2_level (n := 1) (by decide +kernel) ⟨Nat.le_of_ble_eq_true rfl, Nat.le_of_ble_eq_true rfl⟩ hK hP hD hS hA (sp0 _) (sp0 _) (ci := 2) rfl (q0 := 0) rfl rfl hl.1 rfl (Nat.le_of_ble_eq_true rfl) dX2_levelOf_15 ⟨Nat.le_of_ble_eq_true rfl, Nat.le_of_ble_eq_true rfl⟩ (fun H locs hP hD hS => ?_)
    refine lv_goto (tgt := 26) hx hb dX2_levelOf_18 (by decide) ?_
    subst hQ
    exact ri hx hb hr hlocks hK hP hD hS dX2_levelOf_26 (by rw [if_neg c_10]) (by rw [if_neg c_10, nI_clamp (by omega)])

abbrev rmX2_isRuined : Room := { frames := 2, cells := 0, slots := 0, locals := 43 }
theorem b_X2_isRuined : Cond.instanceMethod yX2_isRuined ∈ LW ∧ Cond.selects RX2 yX2_isRuined yX2_isRuined ∈ LW ∧ Cond.initialized RX2 ∈ LW ∧ Cond.code yX2_isRuined cX2_isRuined 2 (some .boolean) ∈ LW := ⟨q789, q790, q40, q791⟩
set_option maxHeartbeats 4000000 in
set_option maxRecDepth 100000 in
theorem c_X2_isRuined (l : Launch) (D : va_G) (cI cZ cL : ClassId) {n k : Nat} (o : Nat) (b : Nat → Nat) (σ : Sg) (κ ζ : Nat → Int32) (th : Int32) (hst : Shp n k σ) {B : Nat} (hB : Bnd B σ) (x : Int32) : MC l yX2_isRuined cX2_isRuined 2 (some .boolean) rmX2_isRuined D (tZ cI cZ cL) [.ref o, .int x] (rC cI cZ o b σ κ ζ th) (rC cI cZ o b σ κ ζ (if hasF 0 σ x = 0 then 1 else 0)) (some (.int (if hasF 0 σ x = 0 then 0 else σ 4 x.toNatClampNeg))) := by
  refine MC.of (by decide) (Nat.le_of_ble_eq_true rfl) ?_
  intro p e s m args below meth c A ls Q hx hb hml hr hts hown hlocks hA hP hD hK hS hl hQ
  have hown : s.vm.findClass RX2 = some m.cls := hown
  have hn10 := hst.1
  have hk16 := hst.2.1
  have hl : lv_has ls 2 [(0, .ref o), (1, .int x)] := hl
  refine lv_aload_n hx hb dX2_isRuined_0 rfl (lv_at hl 0 rfl) ?_
  refine lv_iconst (v := 0) hx hb dX2_isRuined_1 (by decide) ?_
  refine x_put (C := RX2) (T := TX2) (N := 14) (ws2 := rC cI cZ o b σ κ ζ 0) hx hb hts in_wsX20 tyX2_ok nmX2 hown hK hP hD hS 0 rfl rfl 0 (by decide) q592 rfl (by decide +kernel) (Nat.le_of_ble_eq_true rfl) rfl dX2_isRuined_2 (fun H locs hP hD hS => ?_)
  refine lv_aload_n hx hb dX2_isRuined_5 rfl (lv_at hl 0 rfl) ?_
  refine lv_iload_n hx hb dX2_isRuined_6 rfl (lv_at hl 1 rfl) ?_
  refine MC.callV (C := RX2) (T := TX2) (N := 14) (As := [.int x]) (rest := []) (wB := rC cI cZ o b σ κ ζ 0) (c_X2_isField l D cI cZ cL o b σ κ ζ 0 hst x _ rfl) ⟨hx, hb, hml, hown, hts⟩ q654 b_X2_isField (n := 1) (by decide +kernel) ⟨Nat.le_of_ble_eq_true rfl, Nat.le_of_ble_eq_true rfl⟩ hK hP hD hS hA (sp0 _) (sp0 _) (ci := 2) rfl (q0 := 0) rfl rfl hl.1 rfl (Nat.le_of_ble_eq_true rfl) dX2_isRuined_7 ⟨Nat.le_of_ble_eq_true rfl, Nat.le_of_ble_eq_true rfl⟩ (fun H locs hP hD hS => ?_)
  refine lv_if_eq (tgt := 34) hx hb dX2_isRuined_10 (by decide) (fun c_10 => ?_) (fun c_10 => ?_)
  · refine lv_aload_n hx hb dX2_isRuined_34 rfl (lv_at hl 0 rfl) ?_
    refine lv_iconst (v := 1) hx hb dX2_isRuined_35 (by decide) ?_
    refine MC.callV (C := RX2) (T := TX2) (N := 14) (As := [.int 1]) (rest := []) (wB := rC cI cZ o b σ κ ζ 1) (c_X2_isNot l D cI cZ cL o b σ κ ζ 0 1) ⟨hx, hb, hml, hown, hts⟩ q674 b_X2_isNot (n := 1) (by decide +kernel) ⟨Nat.le_of_ble_eq_true rfl, Nat.le_of_ble_eq_true rfl⟩ hK hP hD hS hA (sp0 _) (sp0 _) (ci := 2) rfl (q0 := 0) rfl rfl hl.1 rfl (Nat.le_of_ble_eq_true rfl) dX2_isRuined_36 ⟨Nat.le_of_ble_eq_true rfl, Nat.le_of_ble_eq_true rfl⟩ (fun H locs hP hD hS => ?_)
    subst hQ
    exact rz hx hb hr hlocks hK hP hD hS dX2_isRuined_39 (by decide) (by rw [if_pos c_10]) (by rw [if_pos c_10])
  · obtain ⟨j, hj, ej⟩ : ∃ j, j < n ∧ x = nI j := by
      rcases hasF_iff hst.f0 (by omega) x with q | q
      · exact absurd q.1 c_10
      · exact q.2
    subst ej
    refine lv_aload_n hx hb dX2_isRuined_13 rfl (lv_at hl 0 rfl) ?_
    refine x_get (C := RX2) (T := TX2) (N := 14) hx hb hts in_wsX20 hown hK hP 0 rfl rfl 11 (by decide) q603 (v := .ref (b 7)) rfl dX2_isRuined_14 ?_
    refine lv_bipush (v := 22) hx hb dX2_isRuined_17 (by decide) ?_
    refine lv_iload_n hx hb dX2_isRuined_19 rfl (lv_at hl 1 rfl) ?_
    refine lv_iadd hx hb dX2_isRuined_20 ?_
    refine x_ild hx hb hK hP 8 0 rfl rfl (22 + j) (nI_add 22 j) (by omega) (by decide) (v := σ 4 j) (nw_22 σ (by omega)) dX2_isRuined_21 ?_
    refine lv_iconst (v := 1) hx hb dX2_isRuined_22 (by decide) ?_
    refine lv_icmp_ne (tgt := 30) hx hb dX2_isRuined_23 (by decide) (fun c_23 => ?_) (fun c_23 => ?_)
    · refine lv_iconst (v := 0) hx hb dX2_isRuined_30 (by decide) ?_
      refine lv_goto (tgt := 39) hx hb dX2_isRuined_31 (by decide) ?_
      subst hQ
      exact rz hx hb hr hlocks hK hP hD hS dX2_isRuined_39 (by decide) (by rw [if_neg c_10]) (by rw [if_neg c_10, nI_clamp (by omega)]; rcases hB.2.2.2.2.1 j (by omega) with z | z; exact z.symm; exact absurd z c_23)
    · refine lv_iconst (v := 1) hx hb dX2_isRuined_26 (by decide) ?_
      refine lv_goto (tgt := 39) hx hb dX2_isRuined_27 (by decide) ?_
      subst hQ
      exact rz hx hb hr hlocks hK hP hD hS dX2_isRuined_39 (by decide) (by rw [if_neg c_10]) (by rw [if_neg c_10, nI_clamp (by omega)]; exact c_23.symm)

abbrev rmX2_drainsAt : Room := { frames := 2, cells := 0, slots := 0, locals := 43 }
theorem b_X2_drainsAt : Cond.instanceMethod yX2_drainsAt ∈ LW ∧ Cond.selects RX2 yX2_drainsAt yX2_drainsAt ∈ LW ∧ Cond.initialized RX2 ∈ LW ∧ Cond.code yX2_drainsAt cX2_drainsAt 2 (some .int) ∈ LW := ⟨q793, q794, q40, q795⟩
set_option maxHeartbeats 4000000 in
set_option maxRecDepth 100000 in
theorem c_X2_drainsAt (l : Launch) (D : va_G) (cI cZ cL : ClassId) {n k : Nat} (o : Nat) (b : Nat → Nat) (σ : Sg) (κ ζ : Nat → Int32) (th : Int32) (hst : Shp n k σ) (x : Int32) : MC l yX2_drainsAt cX2_drainsAt 2 (some .int) rmX2_drainsAt D (tZ cI cZ cL) [.ref o, .int x] (rC cI cZ o b σ κ ζ th) (rC cI cZ o b σ κ ζ (if hasF 0 σ x = 0 then 1 else 0)) (some (.int (if hasF 0 σ x = 0 then 0 else openS σ x.toNatClampNeg))) := by
  refine MC.of (by decide) (Nat.le_of_ble_eq_true rfl) ?_
  intro p e s m args below meth c A ls Q hx hb hml hr hts hown hlocks hA hP hD hK hS hl hQ
  have hown : s.vm.findClass RX2 = some m.cls := hown
  have hn10 := hst.1
  have hk16 := hst.2.1
  have hl : lv_has ls 2 [(0, .ref o), (1, .int x)] := hl
  refine lv_aload_n hx hb dX2_drainsAt_0 rfl (lv_at hl 0 rfl) ?_
  refine lv_iconst (v := 0) hx hb dX2_drainsAt_1 (by decide) ?_
  refine x_put (C := RX2) (T := TX2) (N := 14) (ws2 := rC cI cZ o b σ κ ζ 0) hx hb hts in_wsX20 tyX2_ok nmX2 hown hK hP hD hS 0 rfl rfl 0 (by decide) q592 rfl (by decide +kernel) (Nat.le_of_ble_eq_true rfl) rfl dX2_drainsAt_2 (fun H locs hP hD hS => ?_)
  refine lv_aload_n hx hb dX2_drainsAt_5 rfl (lv_at hl 0 rfl) ?_
  refine lv_iload_n hx hb dX2_drainsAt_6 rfl (lv_at hl 1 rfl) ?_
  refine MC.callV (C := RX2) (T := TX2) (N := 14) (As := [.int x]) (rest := []) (wB := rC cI cZ o b σ κ ζ 0) (c_X2_isField l D cI cZ cL o b σ κ ζ 0 hst x _ rfl) ⟨hx, hb, hml, hown, hts⟩ q654 b_X2_isField (n := 1) (by decide +kernel) ⟨Nat.le_of_ble_eq_true rfl, Nat.le_of_ble_eq_true rfl⟩ hK hP hD hS hA (sp0 _) (sp0 _) (ci := 2) rfl (q0 := 0) rfl rfl hl.1 rfl (Nat.le_of_ble_eq_true rfl) dX2_drainsAt_7 ⟨Nat.le_of_ble_eq_true rfl, Nat.le_of_ble_eq_true rfl⟩ (fun H locs hP hD hS => ?_)
  refine lv_if_eq (tgt := 21) hx hb dX2_drainsAt_10 (by decide) (fun c_10 => ?_) (fun c_10 => ?_)
  · refine lv_aload_n hx hb dX2_drainsAt_21 rfl (lv_at hl 0 rfl) ?_
    refine lv_iconst (v := 1) hx hb dX2_drainsAt_22 (by decide) ?_
    refine MC.callV (C := RX2) (T := TX2) (N := 14) (As := [.int 1]) (rest := []) (wB := rC cI cZ o b σ κ ζ 1) (c_X2_no l D cI cZ cL o b σ κ ζ 0 1) ⟨hx, hb, hml, hown, hts⟩ q646 b_X2_no (n := 1) (by decide +kernel) ⟨Nat.le_of_ble_eq_true rfl, Nat.le_of_ble_eq_true rfl⟩ hK hP hD hS hA (sp0 _) (sp0 _) (ci := 2) rfl (q0 := 0) rfl rfl hl.1 rfl (Nat.le_of_ble_eq_true rfl) dX2_drainsAt_23 ⟨Nat.le_of_ble_eq_true rfl, Nat.le_of_ble_eq_true rfl⟩ (fun H locs hP hD hS => ?_)
    subst hQ
    exact ri hx hb hr hlocks hK hP hD hS dX2_drainsAt_26 (by rw [if_pos c_10]) (by rw [if_pos c_10])
  · obtain ⟨j, hj, ej⟩ : ∃ j, j < n ∧ x = nI j := by
      rcases hasF_iff hst.f0 (by omega) x with q | q
      · exact absurd q.1 c_10
      · exact q.2
    subst ej
    refine lv_aload_n hx hb dX2_drainsAt_13 rfl (lv_at hl 0 rfl) ?_
    refine lv_iload_n hx hb dX2_drainsAt_14 rfl (lv_at hl 1 rfl) ?_
    refine MC.callV (C := RX2) (T := TX2) (N := 14) (As := [.int (nI j)]) (rest := []) (wB := rC cI cZ o b σ κ ζ 0) (c_X2_openAt l D cI cZ cL o b σ κ ζ 0 hst j hj) ⟨hx, hb, hml, hown, hts⟩ q796 b_X2_openAt (n := 1) (by decide +kernel) ⟨Nat.le_of_ble_eq_true rfl, Nat.le_of_ble_eq_true rfl⟩ hK hP hD hS hA (sp0 _) (sp0 _) (ci := 2) rfl (q0 := 0) rfl rfl hl.1 rfl (Nat.le_of_ble_eq_true rfl) dX2_drainsAt_15 ⟨Nat.le_of_ble_eq_true rfl, Nat.le_of_ble_eq_true rfl⟩ (fun H locs hP hD hS => ?_)
    refine lv_goto (tgt := 26) hx hb dX2_drainsAt_18 (by decide) ?_
    subst hQ
    exact ri hx hb hr hlocks hK hP hD hS dX2_drainsAt_26 (by rw [if_neg c_10]) (by rw [if_neg c_10, nI_clamp (by omega)])

abbrev rmX2_isPump : Room := { frames := 2, cells := 0, slots := 0, locals := 43 }
theorem b_X2_isPump : Cond.instanceMethod yX2_isPump ∈ LW ∧ Cond.selects RX2 yX2_isPump yX2_isPump ∈ LW ∧ Cond.initialized RX2 ∈ LW ∧ Cond.code yX2_isPump cX2_isPump 2 (some .boolean) ∈ LW := ⟨q821, q822, q40, q823⟩
set_option maxHeartbeats 4000000 in
set_option maxRecDepth 100000 in
theorem c_X2_isPump (l : Launch) (D : va_G) (cI cZ cL : ClassId) {n k : Nat} (o : Nat) (b : Nat → Nat) (σ : Sg) (κ ζ : Nat → Int32) (th : Int32) (hst : Shp n k σ) {B : Nat} (hB : Bnd B σ) (x : Int32) : MC l yX2_isPump cX2_isPump 2 (some .boolean) rmX2_isPump D (tZ cI cZ cL) [.ref o, .int x] (rC cI cZ o b σ κ ζ th) (rC cI cZ o b σ κ ζ (if hasF 1 σ x = 0 then 1 else 0)) (some (.int (if hasF 1 σ x = 0 then 0 else σ 9 x.toNatClampNeg))) := by
  refine MC.of (by decide) (Nat.le_of_ble_eq_true rfl) ?_
  intro p e s m args below meth c A ls Q hx hb hml hr hts hown hlocks hA hP hD hK hS hl hQ
  have hown : s.vm.findClass RX2 = some m.cls := hown
  have hn10 := hst.1
  have hk16 := hst.2.1
  have hl : lv_has ls 2 [(0, .ref o), (1, .int x)] := hl
  refine lv_aload_n hx hb dX2_isPump_0 rfl (lv_at hl 0 rfl) ?_
  refine lv_iconst (v := 0) hx hb dX2_isPump_1 (by decide) ?_
  refine x_put (C := RX2) (T := TX2) (N := 14) (ws2 := rC cI cZ o b σ κ ζ 0) hx hb hts in_wsX20 tyX2_ok nmX2 hown hK hP hD hS 0 rfl rfl 0 (by decide) q592 rfl (by decide +kernel) (Nat.le_of_ble_eq_true rfl) rfl dX2_isPump_2 (fun H locs hP hD hS => ?_)
  refine lv_aload_n hx hb dX2_isPump_5 rfl (lv_at hl 0 rfl) ?_
  refine lv_iload_n hx hb dX2_isPump_6 rfl (lv_at hl 1 rfl) ?_
  refine MC.callV (C := RX2) (T := TX2) (N := 14) (As := [.int x]) (rest := []) (wB := rC cI cZ o b σ κ ζ 0) (c_X2_isDrain l D cI cZ cL o b σ κ ζ 0 hst x _ rfl) ⟨hx, hb, hml, hown, hts⟩ q670 b_X2_isDrain (n := 1) (by decide +kernel) ⟨Nat.le_of_ble_eq_true rfl, Nat.le_of_ble_eq_true rfl⟩ hK hP hD hS hA (sp0 _) (sp0 _) (ci := 2) rfl (q0 := 0) rfl rfl hl.1 rfl (Nat.le_of_ble_eq_true rfl) dX2_isPump_7 ⟨Nat.le_of_ble_eq_true rfl, Nat.le_of_ble_eq_true rfl⟩ (fun H locs hP hD hS => ?_)
  refine lv_if_eq (tgt := 22) hx hb dX2_isPump_10 (by decide) (fun c_10 => ?_) (fun c_10 => ?_)
  · refine lv_aload_n hx hb dX2_isPump_22 rfl (lv_at hl 0 rfl) ?_
    refine lv_iconst (v := 1) hx hb dX2_isPump_23 (by decide) ?_
    refine MC.callV (C := RX2) (T := TX2) (N := 14) (As := [.int 1]) (rest := []) (wB := rC cI cZ o b σ κ ζ 1) (c_X2_isNot l D cI cZ cL o b σ κ ζ 0 1) ⟨hx, hb, hml, hown, hts⟩ q674 b_X2_isNot (n := 1) (by decide +kernel) ⟨Nat.le_of_ble_eq_true rfl, Nat.le_of_ble_eq_true rfl⟩ hK hP hD hS hA (sp0 _) (sp0 _) (ci := 2) rfl (q0 := 0) rfl rfl hl.1 rfl (Nat.le_of_ble_eq_true rfl) dX2_isPump_24 ⟨Nat.le_of_ble_eq_true rfl, Nat.le_of_ble_eq_true rfl⟩ (fun H locs hP hD hS => ?_)
    subst hQ
    exact rz hx hb hr hlocks hK hP hD hS dX2_isPump_27 (by first | decide | exact hB.2.2.2.2.2.1 j (by omega)) (by rw [if_pos c_10]) (by rw [if_pos c_10])
  · obtain ⟨j, hj, ej⟩ : ∃ j, j < k ∧ x = nI j := by
      rcases hasF_iff hst.f1 (by omega) x with q | q
      · exact absurd q.1 c_10
      · exact q.2
    subst ej
    refine lv_aload_n hx hb dX2_isPump_13 rfl (lv_at hl 0 rfl) ?_
    refine x_get (C := RX2) (T := TX2) (N := 14) hx hb hts in_wsX20 hown hK hP 0 rfl rfl 9 (by decide) q601 (v := .ref (b 5)) rfl dX2_isPump_14 ?_
    refine lv_iload_n hx hb dX2_isPump_17 rfl (lv_at hl 1 rfl) ?_
    refine x_zld hx hb hK hP 6 1 rfl rfl j (rfl) (by omega) (by decide) (v := σ 9 j) rfl dX2_isPump_18 ?_
    refine lv_goto (tgt := 27) hx hb dX2_isPump_19 (by decide) ?_
    subst hQ
    exact rz hx hb hr hlocks hK hP hD hS dX2_isPump_27 (by first | decide | exact hB.2.2.2.2.2.1 j (by omega)) (by rw [if_neg c_10]) (by rw [if_neg c_10, nI_clamp (by omega)])

abbrev rmX2_isOpen : Room := { frames := 2, cells := 0, slots := 0, locals := 43 }
theorem b_X2_isOpen : Cond.instanceMethod yX2_isOpen ∈ LW ∧ Cond.selects RX2 yX2_isOpen yX2_isOpen ∈ LW ∧ Cond.initialized RX2 ∈ LW ∧ Cond.code yX2_isOpen cX2_isOpen 2 (some .boolean) ∈ LW := ⟨q825, q826, q40, q827⟩
set_option maxHeartbeats 4000000 in
set_option maxRecDepth 100000 in
theorem c_X2_isOpen (l : Launch) (D : va_G) (cI cZ cL : ClassId) {n k : Nat} (o : Nat) (b : Nat → Nat) (σ : Sg) (κ ζ : Nat → Int32) (th : Int32) (hst : Shp n k σ) {B : Nat} (hB : Bnd B σ) (x : Int32) : MC l yX2_isOpen cX2_isOpen 2 (some .boolean) rmX2_isOpen D (tZ cI cZ cL) [.ref o, .int x] (rC cI cZ o b σ κ ζ th) (rC cI cZ o b σ κ ζ (if hasF 1 σ x = 0 then 1 else 0)) (some (.int (if hasF 1 σ x = 0 then 0 else σ 10 x.toNatClampNeg))) := by
  refine MC.of (by decide) (Nat.le_of_ble_eq_true rfl) ?_
  intro p e s m args below meth c A ls Q hx hb hml hr hts hown hlocks hA hP hD hK hS hl hQ
  have hown : s.vm.findClass RX2 = some m.cls := hown
  have hn10 := hst.1
  have hk16 := hst.2.1
  have hl : lv_has ls 2 [(0, .ref o), (1, .int x)] := hl
  refine lv_aload_n hx hb dX2_isOpen_0 rfl (lv_at hl 0 rfl) ?_
  refine lv_iconst (v := 0) hx hb dX2_isOpen_1 (by decide) ?_
  refine x_put (C := RX2) (T := TX2) (N := 14) (ws2 := rC cI cZ o b σ κ ζ 0) hx hb hts in_wsX20 tyX2_ok nmX2 hown hK hP hD hS 0 rfl rfl 0 (by decide) q592 rfl (by decide +kernel) (Nat.le_of_ble_eq_true rfl) rfl dX2_isOpen_2 (fun H locs hP hD hS => ?_)
  refine lv_aload_n hx hb dX2_isOpen_5 rfl (lv_at hl 0 rfl) ?_
  refine lv_iload_n hx hb dX2_isOpen_6 rfl (lv_at hl 1 rfl) ?_
  refine MC.callV (C := RX2) (T := TX2) (N := 14) (As := [.int x]) (rest := []) (wB := rC cI cZ o b σ κ ζ 0) (c_X2_isDrain l D cI cZ cL o b σ κ ζ 0 hst x _ rfl) ⟨hx, hb, hml, hown, hts⟩ q670 b_X2_isDrain (n := 1) (by decide +kernel) ⟨Nat.le_of_ble_eq_true rfl, Nat.le_of_ble_eq_true rfl⟩ hK hP hD hS hA (sp0 _) (sp0 _) (ci := 2) rfl (q0 := 0) rfl rfl hl.1 rfl (Nat.le_of_ble_eq_true rfl) dX2_isOpen_7 ⟨Nat.le_of_ble_eq_true rfl, Nat.le_of_ble_eq_true rfl⟩ (fun H locs hP hD hS => ?_)
  refine lv_if_eq (tgt := 22) hx hb dX2_isOpen_10 (by decide) (fun c_10 => ?_) (fun c_10 => ?_)
  · refine lv_aload_n hx hb dX2_isOpen_22 rfl (lv_at hl 0 rfl) ?_
    refine lv_iconst (v := 1) hx hb dX2_isOpen_23 (by decide) ?_
    refine MC.callV (C := RX2) (T := TX2) (N := 14) (As := [.int 1]) (rest := []) (wB := rC cI cZ o b σ κ ζ 1) (c_X2_isNot l D cI cZ cL o b σ κ ζ 0 1) ⟨hx, hb, hml, hown, hts⟩ q674 b_X2_isNot (n := 1) (by decide +kernel) ⟨Nat.le_of_ble_eq_true rfl, Nat.le_of_ble_eq_true rfl⟩ hK hP hD hS hA (sp0 _) (sp0 _) (ci := 2) rfl (q0 := 0) rfl rfl hl.1 rfl (Nat.le_of_ble_eq_true rfl) dX2_isOpen_24 ⟨Nat.le_of_ble_eq_true rfl, Nat.le_of_ble_eq_true rfl⟩ (fun H locs hP hD hS => ?_)
    subst hQ
    exact rz hx hb hr hlocks hK hP hD hS dX2_isOpen_27 (by first | decide | exact hB.2.2.2.2.2.2 j (by omega)) (by rw [if_pos c_10]) (by rw [if_pos c_10])
  · obtain ⟨j, hj, ej⟩ : ∃ j, j < k ∧ x = nI j := by
      rcases hasF_iff hst.f1 (by omega) x with q | q
      · exact absurd q.1 c_10
      · exact q.2
    subst ej
    refine lv_aload_n hx hb dX2_isOpen_13 rfl (lv_at hl 0 rfl) ?_
    refine x_get (C := RX2) (T := TX2) (N := 14) hx hb hts in_wsX20 hown hK hP 0 rfl rfl 10 (by decide) q602 (v := .ref (b 6)) rfl dX2_isOpen_14 ?_
    refine lv_iload_n hx hb dX2_isOpen_17 rfl (lv_at hl 1 rfl) ?_
    refine x_zld hx hb hK hP 7 1 rfl rfl j (rfl) (by omega) (by decide) (v := σ 10 j) rfl dX2_isOpen_18 ?_
    refine lv_goto (tgt := 27) hx hb dX2_isOpen_19 (by decide) ?_
    subst hQ
    exact rz hx hb hr hlocks hK hP hD hS dX2_isOpen_27 (by first | decide | exact hB.2.2.2.2.2.2 j (by omega)) (by rw [if_neg c_10]) (by rw [if_neg c_10, nI_clamp (by omega)])

abbrev rmX2_carriedBy : Room := { frames := 2, cells := 0, slots := 0, locals := 43 }
theorem b_X2_carriedBy : Cond.instanceMethod yX2_carriedBy ∈ LW ∧ Cond.selects RX2 yX2_carriedBy yX2_carriedBy ∈ LW ∧ Cond.initialized RX2 ∈ LW ∧ Cond.code yX2_carriedBy cX2_carriedBy 2 (some .int) ∈ LW := ⟨q829, q830, q40, q831⟩
set_option maxHeartbeats 4000000 in
set_option maxRecDepth 100000 in
theorem c_X2_carriedBy (l : Launch) (D : va_G) (cI cZ cL : ClassId) {n k : Nat} (o : Nat) (b : Nat → Nat) (σ : Sg) (κ ζ : Nat → Int32) (th : Int32) (hst : Shp n k σ) (x : Int32) : MC l yX2_carriedBy cX2_carriedBy 2 (some .int) rmX2_carriedBy D (tZ cI cZ cL) [.ref o, .int x] (rC cI cZ o b σ κ ζ th) (rC cI cZ o b σ κ ζ (if hasF 1 σ x = 0 then 1 else 0)) (some (.int (if hasF 1 σ x = 0 then 0 else σ 8 x.toNatClampNeg))) := by
  refine MC.of (by decide) (Nat.le_of_ble_eq_true rfl) ?_
  intro p e s m args below meth c A ls Q hx hb hml hr hts hown hlocks hA hP hD hK hS hl hQ
  have hown : s.vm.findClass RX2 = some m.cls := hown
  have hn10 := hst.1
  have hk16 := hst.2.1
  have hl : lv_has ls 2 [(0, .ref o), (1, .int x)] := hl
  refine lv_aload_n hx hb dX2_carriedBy_0 rfl (lv_at hl 0 rfl) ?_
  refine lv_iconst (v := 0) hx hb dX2_carriedBy_1 (by decide) ?_
  refine x_put (C := RX2) (T := TX2) (N := 14) (ws2 := rC cI cZ o b σ κ ζ 0) hx hb hts in_wsX20 tyX2_ok nmX2 hown hK hP hD hS 0 rfl rfl 0 (by decide) q592 rfl (by decide +kernel) (Nat.le_of_ble_eq_true rfl) rfl dX2_carriedBy_2 (fun H locs hP hD hS => ?_)
  refine lv_aload_n hx hb dX2_carriedBy_5 rfl (lv_at hl 0 rfl) ?_
  refine lv_iload_n hx hb dX2_carriedBy_6 rfl (lv_at hl 1 rfl) ?_
  refine MC.callV (C := RX2) (T := TX2) (N := 14) (As := [.int x]) (rest := []) (wB := rC cI cZ o b σ κ ζ 0) (c_X2_isDrain l D cI cZ cL o b σ κ ζ 0 hst x _ rfl) ⟨hx, hb, hml, hown, hts⟩ q670 b_X2_isDrain (n := 1) (by decide +kernel) ⟨Nat.le_of_ble_eq_true rfl, Nat.le_of_ble_eq_true rfl⟩ hK hP hD hS hA (sp0 _) (sp0 _) (ci := 2) rfl (q0 := 0) rfl rfl hl.1 rfl (Nat.le_of_ble_eq_true rfl) dX2_carriedBy_7 ⟨Nat.le_of_ble_eq_true rfl, Nat.le_of_ble_eq_true rfl⟩ (fun H locs hP hD hS => ?_)
  refine lv_if_eq (tgt := 25) hx hb dX2_carriedBy_10 (by decide) (fun c_10 => ?_) (fun c_10 => ?_)
  · refine lv_aload_n hx hb dX2_carriedBy_25 rfl (lv_at hl 0 rfl) ?_
    refine lv_iconst (v := 1) hx hb dX2_carriedBy_26 (by decide) ?_
    refine MC.callV (C := RX2) (T := TX2) (N := 14) (As := [.int 1]) (rest := []) (wB := rC cI cZ o b σ κ ζ 1) (c_X2_no l D cI cZ cL o b σ κ ζ 0 1) ⟨hx, hb, hml, hown, hts⟩ q646 b_X2_no (n := 1) (by decide +kernel) ⟨Nat.le_of_ble_eq_true rfl, Nat.le_of_ble_eq_true rfl⟩ hK hP hD hS hA (sp0 _) (sp0 _) (ci := 2) rfl (q0 := 0) rfl rfl hl.1 rfl (Nat.le_of_ble_eq_true rfl) dX2_carriedBy_27 ⟨Nat.le_of_ble_eq_true rfl, Nat.le_of_ble_eq_true rfl⟩ (fun H locs hP hD hS => ?_)
    subst hQ
    exact ri hx hb hr hlocks hK hP hD hS dX2_carriedBy_30 (by rw [if_pos c_10]) (by rw [if_pos c_10])
  · obtain ⟨j, hj, ej⟩ : ∃ j, j < k ∧ x = nI j := by
      rcases hasF_iff hst.f1 (by omega) x with q | q
      · exact absurd q.1 c_10
      · exact q.2
    subst ej
    refine lv_aload_n hx hb dX2_carriedBy_13 rfl (lv_at hl 0 rfl) ?_
    refine x_get (C := RX2) (T := TX2) (N := 14) hx hb hts in_wsX20 hown hK hP 0 rfl rfl 11 (by decide) q603 (v := .ref (b 7)) rfl dX2_carriedBy_14 ?_
    refine lv_bipush (v := 32) hx hb dX2_carriedBy_17 (by decide) ?_
    refine lv_iload_n hx hb dX2_carriedBy_19 rfl (lv_at hl 1 rfl) ?_
    refine lv_iadd hx hb dX2_carriedBy_20 ?_
    refine x_ild hx hb hK hP 8 0 rfl rfl (32 + j) (nI_add 32 j) (by omega) (by decide) (v := σ 8 j) (nw_32 σ j) dX2_carriedBy_21 ?_
    refine lv_goto (tgt := 30) hx hb dX2_carriedBy_22 (by decide) ?_
    subst hQ
    exact ri hx hb hr hlocks hK hP hD hS dX2_carriedBy_30 (by rw [if_neg c_10]) (by rw [if_neg c_10, nI_clamp (by omega)])

abbrev rmX2_wouldCarry : Room := { frames := 3, cells := 0, slots := 0, locals := 83 }
theorem b_X2_wouldCarry : Cond.instanceMethod yX2_wouldCarry ∈ LW ∧ Cond.selects RX2 yX2_wouldCarry yX2_wouldCarry ∈ LW ∧ Cond.initialized RX2 ∈ LW ∧ Cond.code yX2_wouldCarry cX2_wouldCarry 2 (some .int) ∈ LW := ⟨q833, q834, q40, q835⟩
set_option maxHeartbeats 4000000 in
set_option maxRecDepth 100000 in
theorem c_X2_wouldCarry (l : Launch) (D : va_G) (cI cZ cL : ClassId) {n k : Nat} (o : Nat) (b : Nat → Nat) (σ : Sg) (κ ζ : Nat → Int32) (th : Int32) (hst : Shp n k σ) {B : Nat} (hB : Bnd B σ) (hB2 : B < 2 ^ 29) (x : Int32) : MC l yX2_wouldCarry cX2_wouldCarry 2 (some .int) rmX2_wouldCarry D (tZ cI cZ cL) [.ref o, .int x] (rC cI cZ o b σ κ ζ th) (rC cI cZ o b σ κ ζ (if hasF 1 σ x = 0 then 1 else 0)) (some (.int (if hasF 1 σ x = 0 then 0 else ab (flow σ x.toNatClampNeg)))) := by
  refine MC.of (by decide) (Nat.le_of_ble_eq_true rfl) ?_
  intro p e s m args below meth c A ls Q hx hb hml hr hts hown hlocks hA hP hD hK hS hl hQ
  have hown : s.vm.findClass RX2 = some m.cls := hown
  have hn10 := hst.1
  have hk16 := hst.2.1
  have hl : lv_has ls 2 [(0, .ref o), (1, .int x)] := hl
  refine lv_aload_n hx hb dX2_wouldCarry_0 rfl (lv_at hl 0 rfl) ?_
  refine lv_iconst (v := 0) hx hb dX2_wouldCarry_1 (by decide) ?_
  refine x_put (C := RX2) (T := TX2) (N := 14) (ws2 := rC cI cZ o b σ κ ζ 0) hx hb hts in_wsX20 tyX2_ok nmX2 hown hK hP hD hS 0 rfl rfl 0 (by decide) q592 rfl (by decide +kernel) (Nat.le_of_ble_eq_true rfl) rfl dX2_wouldCarry_2 (fun H locs hP hD hS => ?_)
  refine lv_aload_n hx hb dX2_wouldCarry_5 rfl (lv_at hl 0 rfl) ?_
  refine lv_iload_n hx hb dX2_wouldCarry_6 rfl (lv_at hl 1 rfl) ?_
  refine MC.callV (C := RX2) (T := TX2) (N := 14) (As := [.int x]) (rest := []) (wB := rC cI cZ o b σ κ ζ 0) (c_X2_isDrain l D cI cZ cL o b σ κ ζ 0 hst x _ rfl) ⟨hx, hb, hml, hown, hts⟩ q670 b_X2_isDrain (n := 1) (by decide +kernel) ⟨Nat.le_of_ble_eq_true rfl, Nat.le_of_ble_eq_true rfl⟩ hK hP hD hS hA (sp0 _) (sp0 _) (ci := 2) rfl (q0 := 0) rfl rfl hl.1 rfl (Nat.le_of_ble_eq_true rfl) dX2_wouldCarry_7 ⟨Nat.le_of_ble_eq_true rfl, Nat.le_of_ble_eq_true rfl⟩ (fun H locs hP hD hS => ?_)
  refine lv_if_eq (tgt := 24) hx hb dX2_wouldCarry_10 (by decide) (fun c_10 => ?_) (fun c_10 => ?_)
  · refine lv_aload_n hx hb dX2_wouldCarry_24 rfl (lv_at hl 0 rfl) ?_
    refine lv_iconst (v := 1) hx hb dX2_wouldCarry_25 (by decide) ?_
    refine MC.callV (C := RX2) (T := TX2) (N := 14) (As := [.int 1]) (rest := []) (wB := rC cI cZ o b σ κ ζ 1) (c_X2_no l D cI cZ cL o b σ κ ζ 0 1) ⟨hx, hb, hml, hown, hts⟩ q646 b_X2_no (n := 1) (by decide +kernel) ⟨Nat.le_of_ble_eq_true rfl, Nat.le_of_ble_eq_true rfl⟩ hK hP hD hS hA (sp0 _) (sp0 _) (ci := 2) rfl (q0 := 0) rfl rfl hl.1 rfl (Nat.le_of_ble_eq_true rfl) dX2_wouldCarry_26 ⟨Nat.le_of_ble_eq_true rfl, Nat.le_of_ble_eq_true rfl⟩ (fun H locs hP hD hS => ?_)
    subst hQ
    exact ri hx hb hr hlocks hK hP hD hS dX2_wouldCarry_29 (by rw [if_pos c_10]) (by rw [if_pos c_10])
  · obtain ⟨j, hj, ej⟩ : ∃ j, j < k ∧ x = nI j := by
      rcases hasF_iff hst.f1 (by omega) x with q | q
      · exact absurd q.1 c_10
      · exact q.2
    subst ej
    refine lv_aload_n hx hb dX2_wouldCarry_13 rfl (lv_at hl 0 rfl) ?_
    refine lv_iload_n hx hb dX2_wouldCarry_14 rfl (lv_at hl 1 rfl) ?_
    refine MC.callV (C := RX2) (T := TX2) (N := 14) (As := [.int (nI j)]) (rest := []) (wB := rC cI cZ o b σ κ ζ 0) (c_X2_flow l D cI cZ cL o b σ κ ζ 0 hst hB hB2 j hj) ⟨hx, hb, hml, hown, hts⟩ q710 b_X2_flow (n := 1) (by decide +kernel) ⟨Nat.le_of_ble_eq_true rfl, Nat.le_of_ble_eq_true rfl⟩ hK hP hD hS hA (sp0 _) (sp0 _) (ci := 2) rfl (q0 := 0) rfl rfl hl.1 rfl (Nat.le_of_ble_eq_true rfl) dX2_wouldCarry_15 ⟨Nat.le_of_ble_eq_true rfl, Nat.le_of_ble_eq_true rfl⟩ (fun H locs hP hD hS => ?_)
    refine va_mabs hx hb (by rw [hml]; exact hl.1.symm) hown (hts _ q719) (hts _ q235) (hts _ q47) (hts _ q236) (by decide) (Nat.le_of_ble_eq_true rfl) (Nat.le_of_ble_eq_true rfl) (Nat.le_of_ble_eq_true rfl) dX2_wouldCarry_18 ?_
    refine x_top (show _ = ab (flow σ j) from rfl) ?_
    refine lv_goto (tgt := 29) hx hb dX2_wouldCarry_21 (by decide) ?_
    subst hQ
    exact ri hx hb hr hlocks hK hP hD hS dX2_wouldCarry_29 (by rw [if_neg c_10]) (by rw [if_neg c_10, nI_clamp (by omega)])
